theorem dL_law_2671 : decode cL_law 2671 = .ok (.ifCond .eq 5, 3) := by decide +kernel
theorem dL_law_2674 : decode cL_law 2674 = .ok (.iconst 0, 1) := by decide +kernel
theorem dL_law_2675 : decode cL_law 2675 = .ok (.ireturn, 1) := by decide +kernel
theorem dL_law_2676 : decode cL_law 2676 = .ok (.goto 1243, 3) := by decide +kernel
theorem dL_law_2679 : decode cL_law 2679 = .ok (.aload_n 1, 1) := by decide +kernel
theorem dL_law_2680 : decode cL_law 2680 = .ok (.aload_n 0, 1) := by decide +kernel
theorem dL_law_2681 : decode cL_law 2681 = .ok (.iload 5, 2) := by decide +kernel
theorem dL_law_2683 : decode cL_law 2683 = .ok (.iconst 1, 1) := by decide +kernel
theorem dL_law_2684 : decode cL_law 2684 = .ok (.iadd, 1) := by decide +kernel
theorem dL_law_2685 : decode cL_law 2685 = .ok (.iaload, 1) := by decide +kernel
theorem dL_law_2686 : decode cL_law 2686 = .ok (.aload_n 3, 1) := by decide +kernel
theorem dL_law_2687 : decode cL_law 2687 = .ok (.invokestatic 319, 3) := by decide +kernel
theorem dL_law_2690 : decode cL_law 2690 = .ok (.istore 6, 2) := by decide +kernel
theorem dL_law_2692 : decode cL_law 2692 = .ok (.aload_n 2, 1) := by decide +kernel
theorem dL_law_2693 : decode cL_law 2693 = .ok (.aload_n 0, 1) := by decide +kernel
theorem dL_law_2694 : decode cL_law 2694 = .ok (.iload 5, 2) := by decide +kernel
theorem dL_law_2696 : decode cL_law 2696 = .ok (.iconst 1, 1) := by decide +kernel
theorem dL_law_2697 : decode cL_law 2697 = .ok (.iadd, 1) := by decide +kernel
theorem dL_law_2698 : decode cL_law 2698 = .ok (.iaload, 1) := by decide +kernel
theorem dL_law_2699 : decode cL_law 2699 = .ok (.invokevirtual 321, 3) := by decide +kernel
theorem dL_law_2702 : decode cL_law 2702 = .ok (.istore 7, 2) := by decide +kernel
theorem dL_law_2704 : decode cL_law 2704 = .ok (.aload_n 2, 1) := by decide +kernel
theorem dL_law_2705 : decode cL_law 2705 = .ok (.invokevirtual 195, 3) := by decide +kernel
theorem dL_law_2708 : decode cL_law 2708 = .ok (.iload 6, 2) := by decide +kernel
theorem dL_law_2710 : decode cL_law 2710 = .ok (.if_icmp .eq 5, 3) := by decide +kernel
theorem dL_law_2713 : decode cL_law 2713 = .ok (.iconst 0, 1) := by decide +kernel
theorem dL_law_2714 : decode cL_law 2714 = .ok (.ireturn, 1) := by decide +kernel
theorem dL_law_2715 : decode cL_law 2715 = .ok (.iload 6, 2) := by decide +kernel
theorem dL_law_2717 : decode cL_law 2717 = .ok (.ifCond .ne 15, 3) := by decide +kernel
theorem dL_law_2720 : decode cL_law 2720 = .ok (.aload_n 3, 1) := by decide +kernel
theorem dL_law_2721 : decode cL_law 2721 = .ok (.iconst 0, 1) := by decide +kernel
theorem dL_law_2722 : decode cL_law 2722 = .ok (.laload, 1) := by decide +kernel
theorem dL_law_2723 : decode cL_law 2723 = .ok (.iload 7, 2) := by decide +kernel
theorem dL_law_2725 : decode cL_law 2725 = .ok (.i2l, 1) := by decide +kernel
theorem dL_law_2726 : decode cL_law 2726 = .ok (.lcmp, 1) := by decide +kernel
theorem dL_law_2727 : decode cL_law 2727 = .ok (.ifCond .eq 5, 3) := by decide +kernel
theorem dL_law_2730 : decode cL_law 2730 = .ok (.iconst 0, 1) := by decide +kernel
theorem dL_law_2731 : decode cL_law 2731 = .ok (.ireturn, 1) := by decide +kernel
theorem dL_law_2732 : decode cL_law 2732 = .ok (.goto 1187, 3) := by decide +kernel
theorem dL_law_2735 : decode cL_law 2735 = .ok (.aload_n 1, 1) := by decide +kernel
theorem dL_law_2736 : decode cL_law 2736 = .ok (.aload_n 0, 1) := by decide +kernel
theorem dL_law_2737 : decode cL_law 2737 = .ok (.iload 5, 2) := by decide +kernel
theorem dL_law_2739 : decode cL_law 2739 = .ok (.iconst 1, 1) := by decide +kernel
theorem dL_law_2740 : decode cL_law 2740 = .ok (.iadd, 1) := by decide +kernel
theorem dL_law_2741 : decode cL_law 2741 = .ok (.iaload, 1) := by decide +kernel
theorem dL_law_2742 : decode cL_law 2742 = .ok (.aload_n 3, 1) := by decide +kernel
theorem dL_law_2743 : decode cL_law 2743 = .ok (.invokestatic 322, 3) := by decide +kernel
theorem dL_law_2746 : decode cL_law 2746 = .ok (.istore 6, 2) := by decide +kernel
theorem dL_law_2748 : decode cL_law 2748 = .ok (.aload_n 2, 1) := by decide +kernel
theorem dL_law_2749 : decode cL_law 2749 = .ok (.aload_n 0, 1) := by decide +kernel
theorem dL_law_2750 : decode cL_law 2750 = .ok (.iload 5, 2) := by decide +kernel
theorem dL_law_2752 : decode cL_law 2752 = .ok (.iconst 1, 1) := by decide +kernel
theorem dL_law_2753 : decode cL_law 2753 = .ok (.iadd, 1) := by decide +kernel
theorem dL_law_2754 : decode cL_law 2754 = .ok (.iaload, 1) := by decide +kernel
theorem dL_law_2755 : decode cL_law 2755 = .ok (.invokevirtual 324, 3) := by decide +kernel
theorem dL_law_2758 : decode cL_law 2758 = .ok (.istore 7, 2) := by decide +kernel
theorem dL_law_2760 : decode cL_law 2760 = .ok (.aload_n 2, 1) := by decide +kernel
theorem dL_law_2761 : decode cL_law 2761 = .ok (.invokevirtual 195, 3) := by decide +kernel
theorem dL_law_2764 : decode cL_law 2764 = .ok (.iload 6, 2) := by decide +kernel
theorem dL_law_2766 : decode cL_law 2766 = .ok (.if_icmp .eq 5, 3) := by decide +kernel
theorem dL_law_2769 : decode cL_law 2769 = .ok (.iconst 0, 1) := by decide +kernel
theorem dL_law_2770 : decode cL_law 2770 = .ok (.ireturn, 1) := by decide +kernel
theorem dL_law_2771 : decode cL_law 2771 = .ok (.iload 6, 2) := by decide +kernel
theorem dL_law_2773 : decode cL_law 2773 = .ok (.ifCond .ne 15, 3) := by decide +kernel
theorem dL_law_2776 : decode cL_law 2776 = .ok (.aload_n 3, 1) := by decide +kernel
theorem dL_law_2777 : decode cL_law 2777 = .ok (.iconst 0, 1) := by decide +kernel
theorem dL_law_2778 : decode cL_law 2778 = .ok (.laload, 1) := by decide +kernel
theorem dL_law_2779 : decode cL_law 2779 = .ok (.iload 7, 2) := by decide +kernel
theorem dL_law_2781 : decode cL_law 2781 = .ok (.i2l, 1) := by decide +kernel
theorem dL_law_2782 : decode cL_law 2782 = .ok (.lcmp, 1) := by decide +kernel
theorem dL_law_2783 : decode cL_law 2783 = .ok (.ifCond .eq 5, 3) := by decide +kernel
theorem dL_law_2786 : decode cL_law 2786 = .ok (.iconst 0, 1) := by decide +kernel
theorem dL_law_2787 : decode cL_law 2787 = .ok (.ireturn, 1) := by decide +kernel
theorem dL_law_2788 : decode cL_law 2788 = .ok (.goto 1131, 3) := by decide +kernel
theorem dL_law_2791 : decode cL_law 2791 = .ok (.aload_n 1, 1) := by decide +kernel
theorem dL_law_2792 : decode cL_law 2792 = .ok (.aload_n 0, 1) := by decide +kernel
theorem dL_law_2793 : decode cL_law 2793 = .ok (.iload 5, 2) := by decide +kernel
theorem dL_law_2795 : decode cL_law 2795 = .ok (.iconst 1, 1) := by decide +kernel
theorem dL_law_2796 : decode cL_law 2796 = .ok (.iadd, 1) := by decide +kernel
theorem dL_law_2797 : decode cL_law 2797 = .ok (.iaload, 1) := by decide +kernel
theorem dL_law_2798 : decode cL_law 2798 = .ok (.aload_n 0, 1) := by decide +kernel
theorem dL_law_2799 : decode cL_law 2799 = .ok (.iload 5, 2) := by decide +kernel
theorem dL_law_2801 : decode cL_law 2801 = .ok (.iconst 2, 1) := by decide +kernel
theorem dL_law_2802 : decode cL_law 2802 = .ok (.iadd, 1) := by decide +kernel
theorem dL_law_2803 : decode cL_law 2803 = .ok (.iaload, 1) := by decide +kernel
theorem dL_law_2804 : decode cL_law 2804 = .ok (.aload_n 0, 1) := by decide +kernel
theorem dL_law_2805 : decode cL_law 2805 = .ok (.iload 5, 2) := by decide +kernel
theorem dL_law_2807 : decode cL_law 2807 = .ok (.iconst 3, 1) := by decide +kernel
theorem dL_law_2808 : decode cL_law 2808 = .ok (.iadd, 1) := by decide +kernel
theorem dL_law_2809 : decode cL_law 2809 = .ok (.iaload, 1) := by decide +kernel
theorem dL_law_2810 : decode cL_law 2810 = .ok (.aload_n 0, 1) := by decide +kernel
theorem dL_law_2811 : decode cL_law 2811 = .ok (.iload 5, 2) := by decide +kernel
theorem dL_law_2813 : decode cL_law 2813 = .ok (.iconst 4, 1) := by decide +kernel
theorem dL_law_2814 : decode cL_law 2814 = .ok (.iadd, 1) := by decide +kernel
theorem dL_law_2815 : decode cL_law 2815 = .ok (.iaload, 1) := by decide +kernel
theorem dL_law_2816 : decode cL_law 2816 = .ok (.aload_n 3, 1) := by decide +kernel
theorem dL_law_2817 : decode cL_law 2817 = .ok (.invokestatic 325, 3) := by decide +kernel
theorem dL_law_2820 : decode cL_law 2820 = .ok (.istore 6, 2) := by decide +kernel
theorem dL_law_2822 : decode cL_law 2822 = .ok (.aload_n 2, 1) := by decide +kernel
theorem dL_law_2823 : decode cL_law 2823 = .ok (.aload_n 0, 1) := by decide +kernel
theorem dL_law_2824 : decode cL_law 2824 = .ok (.iload 5, 2) := by decide +kernel
theorem dL_law_2826 : decode cL_law 2826 = .ok (.iconst 1, 1) := by decide +kernel
theorem dL_law_2827 : decode cL_law 2827 = .ok (.iadd, 1) := by decide +kernel
theorem dL_law_2828 : decode cL_law 2828 = .ok (.iaload, 1) := by decide +kernel
theorem dL_law_2829 : decode cL_law 2829 = .ok (.aload_n 0, 1) := by decide +kernel
theorem dL_law_2830 : decode cL_law 2830 = .ok (.iload 5, 2) := by decide +kernel
theorem dL_law_2832 : decode cL_law 2832 = .ok (.iconst 2, 1) := by decide +kernel
theorem dL_law_2833 : decode cL_law 2833 = .ok (.iadd, 1) := by decide +kernel
theorem dL_law_2834 : decode cL_law 2834 = .ok (.iaload, 1) := by decide +kernel
theorem dL_law_2835 : decode cL_law 2835 = .ok (.aload_n 0, 1) := by decide +kernel
theorem dL_law_2836 : decode cL_law 2836 = .ok (.iload 5, 2) := by decide +kernel
theorem dL_law_2838 : decode cL_law 2838 = .ok (.iconst 3, 1) := by decide +kernel
theorem dL_law_2839 : decode cL_law 2839 = .ok (.iadd, 1) := by decide +kernel
theorem dL_law_2840 : decode cL_law 2840 = .ok (.iaload, 1) := by decide +kernel
theorem dL_law_2841 : decode cL_law 2841 = .ok (.aload_n 0, 1) := by decide +kernel
theorem dL_law_2842 : decode cL_law 2842 = .ok (.iload 5, 2) := by decide +kernel
theorem dL_law_2844 : decode cL_law 2844 = .ok (.iconst 4, 1) := by decide +kernel
theorem dL_law_2845 : decode cL_law 2845 = .ok (.iadd, 1) := by decide +kernel
theorem dL_law_2846 : decode cL_law 2846 = .ok (.iaload, 1) := by decide +kernel
theorem dL_law_2847 : decode cL_law 2847 = .ok (.invokevirtual 328, 3) := by decide +kernel
theorem dL_law_2850 : decode cL_law 2850 = .ok (.istore 7, 2) := by decide +kernel
theorem dL_law_2852 : decode cL_law 2852 = .ok (.aload_n 2, 1) := by decide +kernel
theorem dL_law_2853 : decode cL_law 2853 = .ok (.invokevirtual 195, 3) := by decide +kernel
theorem dL_law_2856 : decode cL_law 2856 = .ok (.iload 6, 2) := by decide +kernel
theorem dL_law_2858 : decode cL_law 2858 = .ok (.if_icmp .eq 5, 3) := by decide +kernel
theorem dL_law_2861 : decode cL_law 2861 = .ok (.iconst 0, 1) := by decide +kernel
theorem dL_law_2862 : decode cL_law 2862 = .ok (.ireturn, 1) := by decide +kernel
theorem dL_law_2863 : decode cL_law 2863 = .ok (.iload 6, 2) := by decide +kernel
theorem dL_law_2865 : decode cL_law 2865 = .ok (.ifCond .ne 15, 3) := by decide +kernel
theorem dL_law_2868 : decode cL_law 2868 = .ok (.aload_n 3, 1) := by decide +kernel
theorem dL_law_2869 : decode cL_law 2869 = .ok (.iconst 0, 1) := by decide +kernel
theorem dL_law_2870 : decode cL_law 2870 = .ok (.laload, 1) := by decide +kernel
theorem dL_law_2871 : decode cL_law 2871 = .ok (.iload 7, 2) := by decide +kernel
theorem dL_law_2873 : decode cL_law 2873 = .ok (.i2l, 1) := by decide +kernel
theorem dL_law_2874 : decode cL_law 2874 = .ok (.lcmp, 1) := by decide +kernel
theorem dL_law_2875 : decode cL_law 2875 = .ok (.ifCond .eq 5, 3) := by decide +kernel
theorem dL_law_2878 : decode cL_law 2878 = .ok (.iconst 0, 1) := by decide +kernel
theorem dL_law_2879 : decode cL_law 2879 = .ok (.ireturn, 1) := by decide +kernel
theorem dL_law_2880 : decode cL_law 2880 = .ok (.goto 1039, 3) := by decide +kernel
theorem dL_law_2883 : decode cL_law 2883 = .ok (.aload_n 1, 1) := by decide +kernel
theorem dL_law_2884 : decode cL_law 2884 = .ok (.aload_n 0, 1) := by decide +kernel
theorem dL_law_2885 : decode cL_law 2885 = .ok (.iload 5, 2) := by decide +kernel
theorem dL_law_2887 : decode cL_law 2887 = .ok (.iconst 1, 1) := by decide +kernel
theorem dL_law_2888 : decode cL_law 2888 = .ok (.iadd, 1) := by decide +kernel
theorem dL_law_2889 : decode cL_law 2889 = .ok (.iaload, 1) := by decide +kernel
theorem dL_law_2890 : decode cL_law 2890 = .ok (.aload_n 3, 1) := by decide +kernel
theorem dL_law_2891 : decode cL_law 2891 = .ok (.invokestatic 329, 3) := by decide +kernel
theorem dL_law_2894 : decode cL_law 2894 = .ok (.istore 6, 2) := by decide +kernel
theorem dL_law_2896 : decode cL_law 2896 = .ok (.aload_n 2, 1) := by decide +kernel
theorem dL_law_2897 : decode cL_law 2897 = .ok (.aload_n 0, 1) := by decide +kernel
theorem dL_law_2898 : decode cL_law 2898 = .ok (.iload 5, 2) := by decide +kernel
theorem dL_law_2900 : decode cL_law 2900 = .ok (.iconst 1, 1) := by decide +kernel
theorem dL_law_2901 : decode cL_law 2901 = .ok (.iadd, 1) := by decide +kernel
theorem dL_law_2902 : decode cL_law 2902 = .ok (.iaload, 1) := by decide +kernel
theorem dL_law_2903 : decode cL_law 2903 = .ok (.invokevirtual 331, 3) := by decide +kernel
theorem dL_law_2906 : decode cL_law 2906 = .ok (.istore 7, 2) := by decide +kernel
theorem dL_law_2908 : decode cL_law 2908 = .ok (.aload_n 2, 1) := by decide +kernel
theorem dL_law_2909 : decode cL_law 2909 = .ok (.invokevirtual 195, 3) := by decide +kernel
theorem dL_law_2912 : decode cL_law 2912 = .ok (.iload 6, 2) := by decide +kernel
theorem dL_law_2914 : decode cL_law 2914 = .ok (.if_icmp .eq 5, 3) := by decide +kernel
theorem dL_law_2917 : decode cL_law 2917 = .ok (.iconst 0, 1) := by decide +kernel
theorem dL_law_2918 : decode cL_law 2918 = .ok (.ireturn, 1) := by decide +kernel
theorem dL_law_2919 : decode cL_law 2919 = .ok (.iload 6, 2) := by decide +kernel
theorem dL_law_2921 : decode cL_law 2921 = .ok (.ifCond .ne 15, 3) := by decide +kernel
theorem dL_law_2924 : decode cL_law 2924 = .ok (.aload_n 3, 1) := by decide +kernel
theorem dL_law_2925 : decode cL_law 2925 = .ok (.iconst 0, 1) := by decide +kernel
theorem dL_law_2926 : decode cL_law 2926 = .ok (.laload, 1) := by decide +kernel
theorem dL_law_2927 : decode cL_law 2927 = .ok (.iload 7, 2) := by decide +kernel
theorem dL_law_2929 : decode cL_law 2929 = .ok (.i2l, 1) := by decide +kernel
theorem dL_law_2930 : decode cL_law 2930 = .ok (.lcmp, 1) := by decide +kernel
theorem dL_law_2931 : decode cL_law 2931 = .ok (.ifCond .eq 5, 3) := by decide +kernel
theorem dL_law_2934 : decode cL_law 2934 = .ok (.iconst 0, 1) := by decide +kernel
theorem dL_law_2935 : decode cL_law 2935 = .ok (.ireturn, 1) := by decide +kernel
theorem dL_law_2936 : decode cL_law 2936 = .ok (.goto 983, 3) := by decide +kernel
theorem dL_law_2939 : decode cL_law 2939 = .ok (.aload_n 1, 1) := by decide +kernel
theorem dL_law_2940 : decode cL_law 2940 = .ok (.aload_n 0, 1) := by decide +kernel
theorem dL_law_2941 : decode cL_law 2941 = .ok (.iload 5, 2) := by decide +kernel
theorem dL_law_2943 : decode cL_law 2943 = .ok (.iconst 1, 1) := by decide +kernel
theorem dL_law_2944 : decode cL_law 2944 = .ok (.iadd, 1) := by decide +kernel
theorem dL_law_2945 : decode cL_law 2945 = .ok (.iaload, 1) := by decide +kernel
theorem dL_law_2946 : decode cL_law 2946 = .ok (.aload_n 3, 1) := by decide +kernel
theorem dL_law_2947 : decode cL_law 2947 = .ok (.invokestatic 332, 3) := by decide +kernel
theorem dL_law_2950 : decode cL_law 2950 = .ok (.istore 6, 2) := by decide +kernel
theorem dL_law_2952 : decode cL_law 2952 = .ok (.aload_n 2, 1) := by decide +kernel
theorem dL_law_2953 : decode cL_law 2953 = .ok (.aload_n 0, 1) := by decide +kernel
theorem dL_law_2954 : decode cL_law 2954 = .ok (.iload 5, 2) := by decide +kernel
theorem dL_law_2956 : decode cL_law 2956 = .ok (.iconst 1, 1) := by decide +kernel
theorem dL_law_2957 : decode cL_law 2957 = .ok (.iadd, 1) := by decide +kernel
theorem dL_law_2958 : decode cL_law 2958 = .ok (.iaload, 1) := by decide +kernel
theorem dL_law_2959 : decode cL_law 2959 = .ok (.invokevirtual 334, 3) := by decide +kernel
theorem dL_law_2962 : decode cL_law 2962 = .ok (.istore 7, 2) := by decide +kernel
theorem dL_law_2964 : decode cL_law 2964 = .ok (.aload_n 2, 1) := by decide +kernel
theorem dL_law_2965 : decode cL_law 2965 = .ok (.invokevirtual 195, 3) := by decide +kernel
theorem dL_law_2968 : decode cL_law 2968 = .ok (.iload 6, 2) := by decide +kernel
theorem dL_law_2970 : decode cL_law 2970 = .ok (.if_icmp .eq 5, 3) := by decide +kernel
theorem dL_law_2973 : decode cL_law 2973 = .ok (.iconst 0, 1) := by decide +kernel
theorem dL_law_2974 : decode cL_law 2974 = .ok (.ireturn, 1) := by decide +kernel
theorem dL_law_2975 : decode cL_law 2975 = .ok (.iload 6, 2) := by decide +kernel
theorem dL_law_2977 : decode cL_law 2977 = .ok (.ifCond .ne 15, 3) := by decide +kernel
theorem dL_law_2980 : decode cL_law 2980 = .ok (.aload_n 3, 1) := by decide +kernel
theorem dL_law_2981 : decode cL_law 2981 = .ok (.iconst 0, 1) := by decide +kernel
theorem dL_law_2982 : decode cL_law 2982 = .ok (.laload, 1) := by decide +kernel
theorem dL_law_2983 : decode cL_law 2983 = .ok (.iload 7, 2) := by decide +kernel
theorem dL_law_2985 : decode cL_law 2985 = .ok (.i2l, 1) := by decide +kernel
theorem dL_law_2986 : decode cL_law 2986 = .ok (.lcmp, 1) := by decide +kernel
theorem dL_law_2987 : decode cL_law 2987 = .ok (.ifCond .eq 5, 3) := by decide +kernel
theorem dL_law_2990 : decode cL_law 2990 = .ok (.iconst 0, 1) := by decide +kernel
theorem dL_law_2991 : decode cL_law 2991 = .ok (.ireturn, 1) := by decide +kernel
theorem dL_law_2992 : decode cL_law 2992 = .ok (.goto 927, 3) := by decide +kernel
theorem dL_law_2995 : decode cL_law 2995 = .ok (.aload_n 1, 1) := by decide +kernel
theorem dL_law_2996 : decode cL_law 2996 = .ok (.aload_n 0, 1) := by decide +kernel
theorem dL_law_2997 : decode cL_law 2997 = .ok (.iload 5, 2) := by decide +kernel
theorem dL_law_2999 : decode cL_law 2999 = .ok (.iconst 1, 1) := by decide +kernel
theorem dL_law_3000 : decode cL_law 3000 = .ok (.iadd, 1) := by decide +kernel
theorem dL_law_3001 : decode cL_law 3001 = .ok (.iaload, 1) := by decide +kernel
theorem dL_law_3002 : decode cL_law 3002 = .ok (.aload_n 3, 1) := by decide +kernel
theorem dL_law_3003 : decode cL_law 3003 = .ok (.invokestatic 335, 3) := by decide +kernel
theorem dL_law_3006 : decode cL_law 3006 = .ok (.istore 6, 2) := by decide +kernel
theorem dL_law_3008 : decode cL_law 3008 = .ok (.aload_n 2, 1) := by decide +kernel
theorem dL_law_3009 : decode cL_law 3009 = .ok (.aload_n 0, 1) := by decide +kernel
theorem dL_law_3010 : decode cL_law 3010 = .ok (.iload 5, 2) := by decide +kernel
theorem dL_law_3012 : decode cL_law 3012 = .ok (.iconst 1, 1) := by decide +kernel
theorem dL_law_3013 : decode cL_law 3013 = .ok (.iadd, 1) := by decide +kernel
theorem dL_law_3014 : decode cL_law 3014 = .ok (.iaload, 1) := by decide +kernel
theorem dL_law_3015 : decode cL_law 3015 = .ok (.invokevirtual 337, 3) := by decide +kernel
theorem dL_law_3018 : decode cL_law 3018 = .ok (.istore 7, 2) := by decide +kernel
theorem dL_law_3020 : decode cL_law 3020 = .ok (.aload_n 2, 1) := by decide +kernel
theorem dL_law_3021 : decode cL_law 3021 = .ok (.invokevirtual 195, 3) := by decide +kernel
theorem dL_law_3024 : decode cL_law 3024 = .ok (.iload 6, 2) := by decide +kernel
theorem dL_law_3026 : decode cL_law 3026 = .ok (.if_icmp .eq 5, 3) := by decide +kernel
theorem dL_law_3029 : decode cL_law 3029 = .ok (.iconst 0, 1) := by decide +kernel
theorem dL_law_3030 : decode cL_law 3030 = .ok (.ireturn, 1) := by decide +kernel
theorem dL_law_3031 : decode cL_law 3031 = .ok (.iload 6, 2) := by decide +kernel
theorem dL_law_3033 : decode cL_law 3033 = .ok (.ifCond .ne 15, 3) := by decide +kernel
theorem dL_law_3036 : decode cL_law 3036 = .ok (.aload_n 3, 1) := by decide +kernel
theorem dL_law_3037 : decode cL_law 3037 = .ok (.iconst 0, 1) := by decide +kernel
theorem dL_law_3038 : decode cL_law 3038 = .ok (.laload, 1) := by decide +kernel
theorem dL_law_3039 : decode cL_law 3039 = .ok (.iload 7, 2) := by decide +kernel
theorem dL_law_3041 : decode cL_law 3041 = .ok (.i2l, 1) := by decide +kernel
theorem dL_law_3042 : decode cL_law 3042 = .ok (.lcmp, 1) := by decide +kernel
theorem dL_law_3043 : decode cL_law 3043 = .ok (.ifCond .eq 5, 3) := by decide +kernel
theorem dL_law_3046 : decode cL_law 3046 = .ok (.iconst 0, 1) := by decide +kernel
theorem dL_law_3047 : decode cL_law 3047 = .ok (.ireturn, 1) := by decide +kernel
theorem dL_law_3048 : decode cL_law 3048 = .ok (.goto 871, 3) := by decide +kernel
theorem dL_law_3051 : decode cL_law 3051 = .ok (.aload_n 1, 1) := by decide +kernel
theorem dL_law_3052 : decode cL_law 3052 = .ok (.aload_n 3, 1) := by decide +kernel
theorem dL_law_3053 : decode cL_law 3053 = .ok (.invokestatic 338, 3) := by decide +kernel
theorem dL_law_3056 : decode cL_law 3056 = .ok (.istore 6, 2) := by decide +kernel
theorem dL_law_3058 : decode cL_law 3058 = .ok (.aload_n 2, 1) := by decide +kernel
theorem dL_law_3059 : decode cL_law 3059 = .ok (.invokevirtual 341, 3) := by decide +kernel
theorem dL_law_3062 : decode cL_law 3062 = .ok (.istore 7, 2) := by decide +kernel
theorem dL_law_3064 : decode cL_law 3064 = .ok (.aload_n 2, 1) := by decide +kernel
theorem dL_law_3065 : decode cL_law 3065 = .ok (.invokevirtual 195, 3) := by decide +kernel
theorem dL_law_3068 : decode cL_law 3068 = .ok (.iload 6, 2) := by decide +kernel
theorem dL_law_3070 : decode cL_law 3070 = .ok (.if_icmp .eq 5, 3) := by decide +kernel
theorem dL_law_3073 : decode cL_law 3073 = .ok (.iconst 0, 1) := by decide +kernel
theorem dL_law_3074 : decode cL_law 3074 = .ok (.ireturn, 1) := by decide +kernel
theorem dL_law_3075 : decode cL_law 3075 = .ok (.iload 6, 2) := by decide +kernel
theorem dL_law_3077 : decode cL_law 3077 = .ok (.ifCond .ne 15, 3) := by decide +kernel
theorem dL_law_3080 : decode cL_law 3080 = .ok (.aload_n 3, 1) := by decide +kernel
theorem dL_law_3081 : decode cL_law 3081 = .ok (.iconst 0, 1) := by decide +kernel
theorem dL_law_3082 : decode cL_law 3082 = .ok (.laload, 1) := by decide +kernel
theorem dL_law_3083 : decode cL_law 3083 = .ok (.iload 7, 2) := by decide +kernel
theorem dL_law_3085 : decode cL_law 3085 = .ok (.i2l, 1) := by decide +kernel
theorem dL_law_3086 : decode cL_law 3086 = .ok (.lcmp, 1) := by decide +kernel
theorem dL_law_3087 : decode cL_law 3087 = .ok (.ifCond .eq 5, 3) := by decide +kernel
theorem dL_law_3090 : decode cL_law 3090 = .ok (.iconst 0, 1) := by decide +kernel
theorem dL_law_3091 : decode cL_law 3091 = .ok (.ireturn, 1) := by decide +kernel
theorem dL_law_3092 : decode cL_law 3092 = .ok (.goto 827, 3) := by decide +kernel
theorem dL_law_3095 : decode cL_law 3095 = .ok (.aload_n 1, 1) := by decide +kernel
theorem dL_law_3096 : decode cL_law 3096 = .ok (.aload_n 0, 1) := by decide +kernel
theorem dL_law_3097 : decode cL_law 3097 = .ok (.iload 5, 2) := by decide +kernel
theorem dL_law_3099 : decode cL_law 3099 = .ok (.iconst 1, 1) := by decide +kernel
theorem dL_law_3100 : decode cL_law 3100 = .ok (.iadd, 1) := by decide +kernel
theorem dL_law_3101 : decode cL_law 3101 = .ok (.iaload, 1) := by decide +kernel
theorem dL_law_3102 : decode cL_law 3102 = .ok (.aload_n 3, 1) := by decide +kernel
theorem dL_law_3103 : decode cL_law 3103 = .ok (.invokestatic 342, 3) := by decide +kernel
theorem dL_law_3106 : decode cL_law 3106 = .ok (.istore 6, 2) := by decide +kernel
theorem dL_law_3108 : decode cL_law 3108 = .ok (.aload_n 2, 1) := by decide +kernel
theorem dL_law_3109 : decode cL_law 3109 = .ok (.aload_n 0, 1) := by decide +kernel
theorem dL_law_3110 : decode cL_law 3110 = .ok (.iload 5, 2) := by decide +kernel
theorem dL_law_3112 : decode cL_law 3112 = .ok (.iconst 1, 1) := by decide +kernel
theorem dL_law_3113 : decode cL_law 3113 = .ok (.iadd, 1) := by decide +kernel
theorem dL_law_3114 : decode cL_law 3114 = .ok (.iaload, 1) := by decide +kernel
theorem dL_law_3115 : decode cL_law 3115 = .ok (.invokevirtual 344, 3) := by decide +kernel
theorem dL_law_3118 : decode cL_law 3118 = .ok (.istore 7, 2) := by decide +kernel
theorem dL_law_3120 : decode cL_law 3120 = .ok (.aload_n 2, 1) := by decide +kernel
theorem dL_law_3121 : decode cL_law 3121 = .ok (.invokevirtual 195, 3) := by decide +kernel
theorem dL_law_3124 : decode cL_law 3124 = .ok (.iload 6, 2) := by decide +kernel
theorem dL_law_3126 : decode cL_law 3126 = .ok (.if_icmp .eq 5, 3) := by decide +kernel
theorem dL_law_3129 : decode cL_law 3129 = .ok (.iconst 0, 1) := by decide +kernel
theorem dL_law_3130 : decode cL_law 3130 = .ok (.ireturn, 1) := by decide +kernel
theorem dL_law_3131 : decode cL_law 3131 = .ok (.iload 6, 2) := by decide +kernel
theorem dL_law_3133 : decode cL_law 3133 = .ok (.ifCond .ne 15, 3) := by decide +kernel
theorem dL_law_3136 : decode cL_law 3136 = .ok (.aload_n 3, 1) := by decide +kernel
theorem dL_law_3137 : decode cL_law 3137 = .ok (.iconst 0, 1) := by decide +kernel
theorem dL_law_3138 : decode cL_law 3138 = .ok (.laload, 1) := by decide +kernel
theorem dL_law_3139 : decode cL_law 3139 = .ok (.iload 7, 2) := by decide +kernel
theorem dL_law_3141 : decode cL_law 3141 = .ok (.i2l, 1) := by decide +kernel
theorem dL_law_3142 : decode cL_law 3142 = .ok (.lcmp, 1) := by decide +kernel
theorem dL_law_3143 : decode cL_law 3143 = .ok (.ifCond .eq 5, 3) := by decide +kernel
theorem dL_law_3146 : decode cL_law 3146 = .ok (.iconst 0, 1) := by decide +kernel
theorem dL_law_3147 : decode cL_law 3147 = .ok (.ireturn, 1) := by decide +kernel
theorem dL_law_3148 : decode cL_law 3148 = .ok (.goto 771, 3) := by decide +kernel
theorem dL_law_3151 : decode cL_law 3151 = .ok (.aload_n 1, 1) := by decide +kernel
theorem dL_law_3152 : decode cL_law 3152 = .ok (.aload_n 0, 1) := by decide +kernel
theorem dL_law_3153 : decode cL_law 3153 = .ok (.iload 5, 2) := by decide +kernel
theorem dL_law_3155 : decode cL_law 3155 = .ok (.iconst 1, 1) := by decide +kernel
theorem dL_law_3156 : decode cL_law 3156 = .ok (.iadd, 1) := by decide +kernel
theorem dL_law_3157 : decode cL_law 3157 = .ok (.iaload, 1) := by decide +kernel
theorem dL_law_3158 : decode cL_law 3158 = .ok (.aload_n 3, 1) := by decide +kernel
theorem dL_law_3159 : decode cL_law 3159 = .ok (.invokestatic 345, 3) := by decide +kernel
theorem dL_law_3162 : decode cL_law 3162 = .ok (.istore 6, 2) := by decide +kernel
theorem dL_law_3164 : decode cL_law 3164 = .ok (.aload_n 2, 1) := by decide +kernel
theorem dL_law_3165 : decode cL_law 3165 = .ok (.aload_n 0, 1) := by decide +kernel
theorem dL_law_3166 : decode cL_law 3166 = .ok (.iload 5, 2) := by decide +kernel
theorem dL_law_3168 : decode cL_law 3168 = .ok (.iconst 1, 1) := by decide +kernel
theorem dL_law_3169 : decode cL_law 3169 = .ok (.iadd, 1) := by decide +kernel
theorem dL_law_3170 : decode cL_law 3170 = .ok (.iaload, 1) := by decide +kernel
theorem dL_law_3171 : decode cL_law 3171 = .ok (.invokevirtual 347, 3) := by decide +kernel
theorem dL_law_3174 : decode cL_law 3174 = .ok (.istore 7, 2) := by decide +kernel
theorem dL_law_3176 : decode cL_law 3176 = .ok (.aload_n 2, 1) := by decide +kernel
theorem dL_law_3177 : decode cL_law 3177 = .ok (.invokevirtual 195, 3) := by decide +kernel
theorem dL_law_3180 : decode cL_law 3180 = .ok (.iload 6, 2) := by decide +kernel
theorem dL_law_3182 : decode cL_law 3182 = .ok (.if_icmp .eq 5, 3) := by decide +kernel
theorem dL_law_3185 : decode cL_law 3185 = .ok (.iconst 0, 1) := by decide +kernel
theorem dL_law_3186 : decode cL_law 3186 = .ok (.ireturn, 1) := by decide +kernel
theorem dL_law_3187 : decode cL_law 3187 = .ok (.iload 6, 2) := by decide +kernel
theorem dL_law_3189 : decode cL_law 3189 = .ok (.ifCond .ne 15, 3) := by decide +kernel
theorem dL_law_3192 : decode cL_law 3192 = .ok (.aload_n 3, 1) := by decide +kernel
theorem dL_law_3193 : decode cL_law 3193 = .ok (.iconst 0, 1) := by decide +kernel
theorem dL_law_3194 : decode cL_law 3194 = .ok (.laload, 1) := by decide +kernel
theorem dL_law_3195 : decode cL_law 3195 = .ok (.iload 7, 2) := by decide +kernel
theorem dL_law_3197 : decode cL_law 3197 = .ok (.i2l, 1) := by decide +kernel
theorem dL_law_3198 : decode cL_law 3198 = .ok (.lcmp, 1) := by decide +kernel
theorem dL_law_3199 : decode cL_law 3199 = .ok (.ifCond .eq 5, 3) := by decide +kernel
theorem dL_law_3202 : decode cL_law 3202 = .ok (.iconst 0, 1) := by decide +kernel
theorem dL_law_3203 : decode cL_law 3203 = .ok (.ireturn, 1) := by decide +kernel
theorem dL_law_3204 : decode cL_law 3204 = .ok (.goto 715, 3) := by decide +kernel
theorem dL_law_3207 : decode cL_law 3207 = .ok (.aload_n 1, 1) := by decide +kernel
theorem dL_law_3208 : decode cL_law 3208 = .ok (.aload_n 0, 1) := by decide +kernel
theorem dL_law_3209 : decode cL_law 3209 = .ok (.iload 5, 2) := by decide +kernel
theorem dL_law_3211 : decode cL_law 3211 = .ok (.iconst 1, 1) := by decide +kernel
theorem dL_law_3212 : decode cL_law 3212 = .ok (.iadd, 1) := by decide +kernel
theorem dL_law_3213 : decode cL_law 3213 = .ok (.iaload, 1) := by decide +kernel
theorem dL_law_3214 : decode cL_law 3214 = .ok (.aload_n 0, 1) := by decide +kernel
theorem dL_law_3215 : decode cL_law 3215 = .ok (.iload 5, 2) := by decide +kernel
theorem dL_law_3217 : decode cL_law 3217 = .ok (.iconst 2, 1) := by decide +kernel
theorem dL_law_3218 : decode cL_law 3218 = .ok (.iadd, 1) := by decide +kernel
theorem dL_law_3219 : decode cL_law 3219 = .ok (.iaload, 1) := by decide +kernel
theorem dL_law_3220 : decode cL_law 3220 = .ok (.aload_n 0, 1) := by decide +kernel
theorem dL_law_3221 : decode cL_law 3221 = .ok (.iload 5, 2) := by decide +kernel
theorem dL_law_3223 : decode cL_law 3223 = .ok (.iconst 3, 1) := by decide +kernel
theorem dL_law_3224 : decode cL_law 3224 = .ok (.iadd, 1) := by decide +kernel
theorem dL_law_3225 : decode cL_law 3225 = .ok (.iaload, 1) := by decide +kernel
theorem dL_law_3226 : decode cL_law 3226 = .ok (.ifCond .eq 7, 3) := by decide +kernel
theorem dL_law_3229 : decode cL_law 3229 = .ok (.iconst 1, 1) := by decide +kernel
theorem dL_law_3230 : decode cL_law 3230 = .ok (.goto 4, 3) := by decide +kernel
theorem dL_law_3233 : decode cL_law 3233 = .ok (.iconst 0, 1) := by decide +kernel
theorem dL_law_3234 : decode cL_law 3234 = .ok (.aload_n 3, 1) := by decide +kernel
theorem dL_law_3235 : decode cL_law 3235 = .ok (.invokestatic 348, 3) := by decide +kernel
theorem dL_law_3238 : decode cL_law 3238 = .ok (.istore 6, 2) := by decide +kernel
theorem dL_law_3240 : decode cL_law 3240 = .ok (.aload_n 2, 1) := by decide +kernel
theorem dL_law_3241 : decode cL_law 3241 = .ok (.aload_n 0, 1) := by decide +kernel
theorem dL_law_3242 : decode cL_law 3242 = .ok (.iload 5, 2) := by decide +kernel
theorem dL_law_3244 : decode cL_law 3244 = .ok (.iconst 1, 1) := by decide +kernel
theorem dL_law_3245 : decode cL_law 3245 = .ok (.iadd, 1) := by decide +kernel
theorem dL_law_3246 : decode cL_law 3246 = .ok (.iaload, 1) := by decide +kernel
theorem dL_law_3247 : decode cL_law 3247 = .ok (.aload_n 0, 1) := by decide +kernel
theorem dL_law_3248 : decode cL_law 3248 = .ok (.iload 5, 2) := by decide +kernel
theorem dL_law_3250 : decode cL_law 3250 = .ok (.iconst 2, 1) := by decide +kernel
theorem dL_law_3251 : decode cL_law 3251 = .ok (.iadd, 1) := by decide +kernel
theorem dL_law_3252 : decode cL_law 3252 = .ok (.iaload, 1) := by decide +kernel
theorem dL_law_3253 : decode cL_law 3253 = .ok (.aload_n 0, 1) := by decide +kernel
theorem dL_law_3254 : decode cL_law 3254 = .ok (.iload 5, 2) := by decide +kernel
theorem dL_law_3256 : decode cL_law 3256 = .ok (.iconst 3, 1) := by decide +kernel
theorem dL_law_3257 : decode cL_law 3257 = .ok (.iadd, 1) := by decide +kernel
theorem dL_law_3258 : decode cL_law 3258 = .ok (.iaload, 1) := by decide +kernel
theorem dL_law_3259 : decode cL_law 3259 = .ok (.ifCond .eq 7, 3) := by decide +kernel
theorem dL_law_3262 : decode cL_law 3262 = .ok (.iconst 1, 1) := by decide +kernel
theorem dL_law_3263 : decode cL_law 3263 = .ok (.goto 4, 3) := by decide +kernel
theorem dL_law_3266 : decode cL_law 3266 = .ok (.iconst 0, 1) := by decide +kernel
theorem dL_law_3267 : decode cL_law 3267 = .ok (.invokevirtual 351, 3) := by decide +kernel
theorem dL_law_3270 : decode cL_law 3270 = .ok (.istore 7, 2) := by decide +kernel
theorem dL_law_3272 : decode cL_law 3272 = .ok (.aload_n 2, 1) := by decide +kernel
theorem dL_law_3273 : decode cL_law 3273 = .ok (.invokevirtual 195, 3) := by decide +kernel
theorem dL_law_3276 : decode cL_law 3276 = .ok (.iload 6, 2) := by decide +kernel
theorem dL_law_3278 : decode cL_law 3278 = .ok (.if_icmp .eq 5, 3) := by decide +kernel
theorem dL_law_3281 : decode cL_law 3281 = .ok (.iconst 0, 1) := by decide +kernel
theorem dL_law_3282 : decode cL_law 3282 = .ok (.ireturn, 1) := by decide +kernel
theorem dL_law_3283 : decode cL_law 3283 = .ok (.iload 6, 2) := by decide +kernel
theorem dL_law_3285 : decode cL_law 3285 = .ok (.ifCond .ne 22, 3) := by decide +kernel
theorem dL_law_3288 : decode cL_law 3288 = .ok (.aload_n 3, 1) := by decide +kernel
theorem dL_law_3289 : decode cL_law 3289 = .ok (.iconst 0, 1) := by decide +kernel
theorem dL_law_3290 : decode cL_law 3290 = .ok (.laload, 1) := by decide +kernel
theorem dL_law_3291 : decode cL_law 3291 = .ok (.iload 7, 2) := by decide +kernel
theorem dL_law_3293 : decode cL_law 3293 = .ok (.ifCond .eq 7, 3) := by decide +kernel
theorem dL_law_3296 : decode cL_law 3296 = .ok (.lconst 1, 1) := by decide +kernel
theorem dL_law_3297 : decode cL_law 3297 = .ok (.goto 4, 3) := by decide +kernel
theorem dL_law_3300 : decode cL_law 3300 = .ok (.lconst 0, 1) := by decide +kernel
theorem dL_law_3301 : decode cL_law 3301 = .ok (.lcmp, 1) := by decide +kernel
theorem dL_law_3302 : decode cL_law 3302 = .ok (.ifCond .eq 5, 3) := by decide +kernel
theorem dL_law_3305 : decode cL_law 3305 = .ok (.iconst 0, 1) := by decide +kernel
theorem dL_law_3306 : decode cL_law 3306 = .ok (.ireturn, 1) := by decide +kernel
theorem dL_law_3307 : decode cL_law 3307 = .ok (.goto 612, 3) := by decide +kernel
theorem dL_law_3310 : decode cL_law 3310 = .ok (.aload_n 1, 1) := by decide +kernel
theorem dL_law_3311 : decode cL_law 3311 = .ok (.aload_n 0, 1) := by decide +kernel
theorem dL_law_3312 : decode cL_law 3312 = .ok (.iload 5, 2) := by decide +kernel
theorem dL_law_3314 : decode cL_law 3314 = .ok (.iconst 1, 1) := by decide +kernel
theorem dL_law_3315 : decode cL_law 3315 = .ok (.iadd, 1) := by decide +kernel
theorem dL_law_3316 : decode cL_law 3316 = .ok (.iaload, 1) := by decide +kernel
theorem dL_law_3317 : decode cL_law 3317 = .ok (.aload_n 0, 1) := by decide +kernel
theorem dL_law_3318 : decode cL_law 3318 = .ok (.iload 5, 2) := by decide +kernel
theorem dL_law_3320 : decode cL_law 3320 = .ok (.iconst 2, 1) := by decide +kernel
theorem dL_law_3321 : decode cL_law 3321 = .ok (.iadd, 1) := by decide +kernel
theorem dL_law_3322 : decode cL_law 3322 = .ok (.iaload, 1) := by decide +kernel
theorem dL_law_3323 : decode cL_law 3323 = .ok (.aload_n 0, 1) := by decide +kernel
theorem dL_law_3324 : decode cL_law 3324 = .ok (.iload 5, 2) := by decide +kernel
theorem dL_law_3326 : decode cL_law 3326 = .ok (.iconst 3, 1) := by decide +kernel
theorem dL_law_3327 : decode cL_law 3327 = .ok (.iadd, 1) := by decide +kernel
theorem dL_law_3328 : decode cL_law 3328 = .ok (.iaload, 1) := by decide +kernel
theorem dL_law_3329 : decode cL_law 3329 = .ok (.aload_n 3, 1) := by decide +kernel
theorem dL_law_3330 : decode cL_law 3330 = .ok (.invokestatic 352, 3) := by decide +kernel
theorem dL_law_3333 : decode cL_law 3333 = .ok (.istore 6, 2) := by decide +kernel
theorem dL_law_3335 : decode cL_law 3335 = .ok (.aload_n 2, 1) := by decide +kernel
theorem dL_law_3336 : decode cL_law 3336 = .ok (.aload_n 0, 1) := by decide +kernel
theorem dL_law_3337 : decode cL_law 3337 = .ok (.iload 5, 2) := by decide +kernel
theorem dL_law_3339 : decode cL_law 3339 = .ok (.iconst 1, 1) := by decide +kernel
theorem dL_law_3340 : decode cL_law 3340 = .ok (.iadd, 1) := by decide +kernel
theorem dL_law_3341 : decode cL_law 3341 = .ok (.iaload, 1) := by decide +kernel
theorem dL_law_3342 : decode cL_law 3342 = .ok (.aload_n 0, 1) := by decide +kernel
theorem dL_law_3343 : decode cL_law 3343 = .ok (.iload 5, 2) := by decide +kernel
theorem dL_law_3345 : decode cL_law 3345 = .ok (.iconst 2, 1) := by decide +kernel
theorem dL_law_3346 : decode cL_law 3346 = .ok (.iadd, 1) := by decide +kernel
theorem dL_law_3347 : decode cL_law 3347 = .ok (.iaload, 1) := by decide +kernel
theorem dL_law_3348 : decode cL_law 3348 = .ok (.aload_n 0, 1) := by decide +kernel
theorem dL_law_3349 : decode cL_law 3349 = .ok (.iload 5, 2) := by decide +kernel
theorem dL_law_3351 : decode cL_law 3351 = .ok (.iconst 3, 1) := by decide +kernel
theorem dL_law_3352 : decode cL_law 3352 = .ok (.iadd, 1) := by decide +kernel
theorem dL_law_3353 : decode cL_law 3353 = .ok (.iaload, 1) := by decide +kernel
theorem dL_law_3354 : decode cL_law 3354 = .ok (.invokevirtual 354, 3) := by decide +kernel
theorem dL_law_3357 : decode cL_law 3357 = .ok (.istore 7, 2) := by decide +kernel
theorem dL_law_3359 : decode cL_law 3359 = .ok (.aload_n 2, 1) := by decide +kernel
theorem dL_law_3360 : decode cL_law 3360 = .ok (.invokevirtual 195, 3) := by decide +kernel
theorem dL_law_3363 : decode cL_law 3363 = .ok (.iload 6, 2) := by decide +kernel
theorem dL_law_3365 : decode cL_law 3365 = .ok (.if_icmp .eq 5, 3) := by decide +kernel
theorem dL_law_3368 : decode cL_law 3368 = .ok (.iconst 0, 1) := by decide +kernel
theorem dL_law_3369 : decode cL_law 3369 = .ok (.ireturn, 1) := by decide +kernel
theorem dL_law_3370 : decode cL_law 3370 = .ok (.iload 6, 2) := by decide +kernel
theorem dL_law_3372 : decode cL_law 3372 = .ok (.ifCond .ne 15, 3) := by decide +kernel
theorem dL_law_3375 : decode cL_law 3375 = .ok (.aload_n 3, 1) := by decide +kernel
theorem dL_law_3376 : decode cL_law 3376 = .ok (.iconst 0, 1) := by decide +kernel
theorem dL_law_3377 : decode cL_law 3377 = .ok (.laload, 1) := by decide +kernel
theorem dL_law_3378 : decode cL_law 3378 = .ok (.iload 7, 2) := by decide +kernel
theorem dL_law_3380 : decode cL_law 3380 = .ok (.i2l, 1) := by decide +kernel
theorem dL_law_3381 : decode cL_law 3381 = .ok (.lcmp, 1) := by decide +kernel
theorem dL_law_3382 : decode cL_law 3382 = .ok (.ifCond .eq 5, 3) := by decide +kernel
theorem dL_law_3385 : decode cL_law 3385 = .ok (.iconst 0, 1) := by decide +kernel
theorem dL_law_3386 : decode cL_law 3386 = .ok (.ireturn, 1) := by decide +kernel
theorem dL_law_3387 : decode cL_law 3387 = .ok (.goto 532, 3) := by decide +kernel
theorem dL_law_3390 : decode cL_law 3390 = .ok (.aload_n 1, 1) := by decide +kernel
theorem dL_law_3391 : decode cL_law 3391 = .ok (.aload_n 0, 1) := by decide +kernel
theorem dL_law_3392 : decode cL_law 3392 = .ok (.iload 5, 2) := by decide +kernel
theorem dL_law_3394 : decode cL_law 3394 = .ok (.iconst 1, 1) := by decide +kernel
theorem dL_law_3395 : decode cL_law 3395 = .ok (.iadd, 1) := by decide +kernel
theorem dL_law_3396 : decode cL_law 3396 = .ok (.iaload, 1) := by decide +kernel
theorem dL_law_3397 : decode cL_law 3397 = .ok (.aload_n 0, 1) := by decide +kernel
theorem dL_law_3398 : decode cL_law 3398 = .ok (.iload 5, 2) := by decide +kernel
theorem dL_law_3400 : decode cL_law 3400 = .ok (.iconst 2, 1) := by decide +kernel
theorem dL_law_3401 : decode cL_law 3401 = .ok (.iadd, 1) := by decide +kernel
theorem dL_law_3402 : decode cL_law 3402 = .ok (.iaload, 1) := by decide +kernel
theorem dL_law_3403 : decode cL_law 3403 = .ok (.aload_n 3, 1) := by decide +kernel
theorem dL_law_3404 : decode cL_law 3404 = .ok (.invokestatic 355, 3) := by decide +kernel
theorem dL_law_3407 : decode cL_law 3407 = .ok (.istore 6, 2) := by decide +kernel
theorem dL_law_3409 : decode cL_law 3409 = .ok (.aload_n 2, 1) := by decide +kernel
theorem dL_law_3410 : decode cL_law 3410 = .ok (.aload_n 0, 1) := by decide +kernel
theorem dL_law_3411 : decode cL_law 3411 = .ok (.iload 5, 2) := by decide +kernel
theorem dL_law_3413 : decode cL_law 3413 = .ok (.iconst 1, 1) := by decide +kernel
theorem dL_law_3414 : decode cL_law 3414 = .ok (.iadd, 1) := by decide +kernel
theorem dL_law_3415 : decode cL_law 3415 = .ok (.iaload, 1) := by decide +kernel
theorem dL_law_3416 : decode cL_law 3416 = .ok (.aload_n 0, 1) := by decide +kernel
theorem dL_law_3417 : decode cL_law 3417 = .ok (.iload 5, 2) := by decide +kernel
theorem dL_law_3419 : decode cL_law 3419 = .ok (.iconst 2, 1) := by decide +kernel
theorem dL_law_3420 : decode cL_law 3420 = .ok (.iadd, 1) := by decide +kernel
theorem dL_law_3421 : decode cL_law 3421 = .ok (.iaload, 1) := by decide +kernel
theorem dL_law_3422 : decode cL_law 3422 = .ok (.invokevirtual 357, 3) := by decide +kernel
theorem dL_law_3425 : decode cL_law 3425 = .ok (.istore 7, 2) := by decide +kernel
theorem dL_law_3427 : decode cL_law 3427 = .ok (.aload_n 2, 1) := by decide +kernel
theorem dL_law_3428 : decode cL_law 3428 = .ok (.invokevirtual 195, 3) := by decide +kernel
theorem dL_law_3431 : decode cL_law 3431 = .ok (.iload 6, 2) := by decide +kernel
theorem dL_law_3433 : decode cL_law 3433 = .ok (.if_icmp .eq 5, 3) := by decide +kernel
theorem dL_law_3436 : decode cL_law 3436 = .ok (.iconst 0, 1) := by decide +kernel
theorem dL_law_3437 : decode cL_law 3437 = .ok (.ireturn, 1) := by decide +kernel
theorem dL_law_3438 : decode cL_law 3438 = .ok (.iload 6, 2) := by decide +kernel
theorem dL_law_3440 : decode cL_law 3440 = .ok (.ifCond .ne 15, 3) := by decide +kernel
theorem dL_law_3443 : decode cL_law 3443 = .ok (.aload_n 3, 1) := by decide +kernel
theorem dL_law_3444 : decode cL_law 3444 = .ok (.iconst 0, 1) := by decide +kernel
theorem dL_law_3445 : decode cL_law 3445 = .ok (.laload, 1) := by decide +kernel
theorem dL_law_3446 : decode cL_law 3446 = .ok (.iload 7, 2) := by decide +kernel
theorem dL_law_3448 : decode cL_law 3448 = .ok (.i2l, 1) := by decide +kernel
theorem dL_law_3449 : decode cL_law 3449 = .ok (.lcmp, 1) := by decide +kernel
theorem dL_law_3450 : decode cL_law 3450 = .ok (.ifCond .eq 5, 3) := by decide +kernel
theorem dL_law_3453 : decode cL_law 3453 = .ok (.iconst 0, 1) := by decide +kernel
theorem dL_law_3454 : decode cL_law 3454 = .ok (.ireturn, 1) := by decide +kernel
theorem dL_law_3455 : decode cL_law 3455 = .ok (.goto 464, 3) := by decide +kernel
theorem dL_law_3458 : decode cL_law 3458 = .ok (.aload_n 1, 1) := by decide +kernel
theorem dL_law_3459 : decode cL_law 3459 = .ok (.aload_n 0, 1) := by decide +kernel
theorem dL_law_3460 : decode cL_law 3460 = .ok (.iload 5, 2) := by decide +kernel
theorem dL_law_3462 : decode cL_law 3462 = .ok (.iconst 1, 1) := by decide +kernel
theorem dL_law_3463 : decode cL_law 3463 = .ok (.iadd, 1) := by decide +kernel
theorem dL_law_3464 : decode cL_law 3464 = .ok (.iaload, 1) := by decide +kernel
theorem dL_law_3465 : decode cL_law 3465 = .ok (.aload_n 0, 1) := by decide +kernel
theorem dL_law_3466 : decode cL_law 3466 = .ok (.iload 5, 2) := by decide +kernel
theorem dL_law_3468 : decode cL_law 3468 = .ok (.iconst 2, 1) := by decide +kernel
theorem dL_law_3469 : decode cL_law 3469 = .ok (.iadd, 1) := by decide +kernel
theorem dL_law_3470 : decode cL_law 3470 = .ok (.iaload, 1) := by decide +kernel
theorem dL_law_3471 : decode cL_law 3471 = .ok (.aload_n 3, 1) := by decide +kernel
theorem dL_law_3472 : decode cL_law 3472 = .ok (.invokestatic 358, 3) := by decide +kernel
theorem dL_law_3475 : decode cL_law 3475 = .ok (.istore 6, 2) := by decide +kernel
theorem dL_law_3477 : decode cL_law 3477 = .ok (.aload_n 2, 1) := by decide +kernel
theorem dL_law_3478 : decode cL_law 3478 = .ok (.aload_n 0, 1) := by decide +kernel
theorem dL_law_3479 : decode cL_law 3479 = .ok (.iload 5, 2) := by decide +kernel
theorem dL_law_3481 : decode cL_law 3481 = .ok (.iconst 1, 1) := by decide +kernel
theorem dL_law_3482 : decode cL_law 3482 = .ok (.iadd, 1) := by decide +kernel
theorem dL_law_3483 : decode cL_law 3483 = .ok (.iaload, 1) := by decide +kernel
theorem dL_law_3484 : decode cL_law 3484 = .ok (.aload_n 0, 1) := by decide +kernel
theorem dL_law_3485 : decode cL_law 3485 = .ok (.iload 5, 2) := by decide +kernel
theorem dL_law_3487 : decode cL_law 3487 = .ok (.iconst 2, 1) := by decide +kernel
theorem dL_law_3488 : decode cL_law 3488 = .ok (.iadd, 1) := by decide +kernel
theorem dL_law_3489 : decode cL_law 3489 = .ok (.iaload, 1) := by decide +kernel
theorem dL_law_3490 : decode cL_law 3490 = .ok (.invokevirtual 360, 3) := by decide +kernel
theorem dL_law_3493 : decode cL_law 3493 = .ok (.istore 7, 2) := by decide +kernel
theorem dL_law_3495 : decode cL_law 3495 = .ok (.aload_n 2, 1) := by decide +kernel
theorem dL_law_3496 : decode cL_law 3496 = .ok (.invokevirtual 195, 3) := by decide +kernel
theorem dL_law_3499 : decode cL_law 3499 = .ok (.iload 6, 2) := by decide +kernel
theorem dL_law_3501 : decode cL_law 3501 = .ok (.if_icmp .eq 5, 3) := by decide +kernel
theorem dL_law_3504 : decode cL_law 3504 = .ok (.iconst 0, 1) := by decide +kernel
theorem dL_law_3505 : decode cL_law 3505 = .ok (.ireturn, 1) := by decide +kernel
theorem dL_law_3506 : decode cL_law 3506 = .ok (.iload 6, 2) := by decide +kernel
theorem dL_law_3508 : decode cL_law 3508 = .ok (.ifCond .ne 15, 3) := by decide +kernel
theorem dL_law_3511 : decode cL_law 3511 = .ok (.aload_n 3, 1) := by decide +kernel
theorem dL_law_3512 : decode cL_law 3512 = .ok (.iconst 0, 1) := by decide +kernel
theorem dL_law_3513 : decode cL_law 3513 = .ok (.laload, 1) := by decide +kernel
theorem dL_law_3514 : decode cL_law 3514 = .ok (.iload 7, 2) := by decide +kernel
theorem dL_law_3516 : decode cL_law 3516 = .ok (.i2l, 1) := by decide +kernel
theorem dL_law_3517 : decode cL_law 3517 = .ok (.lcmp, 1) := by decide +kernel
theorem dL_law_3518 : decode cL_law 3518 = .ok (.ifCond .eq 5, 3) := by decide +kernel
theorem dL_law_3521 : decode cL_law 3521 = .ok (.iconst 0, 1) := by decide +kernel
theorem dL_law_3522 : decode cL_law 3522 = .ok (.ireturn, 1) := by decide +kernel
theorem dL_law_3523 : decode cL_law 3523 = .ok (.goto 396, 3) := by decide +kernel
theorem dL_law_3526 : decode cL_law 3526 = .ok (.aload_n 1, 1) := by decide +kernel
theorem dL_law_3527 : decode cL_law 3527 = .ok (.aload_n 0, 1) := by decide +kernel
theorem dL_law_3528 : decode cL_law 3528 = .ok (.iload 5, 2) := by decide +kernel
theorem dL_law_3530 : decode cL_law 3530 = .ok (.iconst 1, 1) := by decide +kernel
theorem dL_law_3531 : decode cL_law 3531 = .ok (.iadd, 1) := by decide +kernel
theorem dL_law_3532 : decode cL_law 3532 = .ok (.iaload, 1) := by decide +kernel
theorem dL_law_3533 : decode cL_law 3533 = .ok (.aload_n 3, 1) := by decide +kernel
theorem dL_law_3534 : decode cL_law 3534 = .ok (.invokestatic 361, 3) := by decide +kernel
theorem dL_law_3537 : decode cL_law 3537 = .ok (.istore 6, 2) := by decide +kernel
theorem dL_law_3539 : decode cL_law 3539 = .ok (.aload_n 2, 1) := by decide +kernel
theorem dL_law_3540 : decode cL_law 3540 = .ok (.aload_n 0, 1) := by decide +kernel
theorem dL_law_3541 : decode cL_law 3541 = .ok (.iload 5, 2) := by decide +kernel
theorem dL_law_3543 : decode cL_law 3543 = .ok (.iconst 1, 1) := by decide +kernel
theorem dL_law_3544 : decode cL_law 3544 = .ok (.iadd, 1) := by decide +kernel
theorem dL_law_3545 : decode cL_law 3545 = .ok (.iaload, 1) := by decide +kernel
theorem dL_law_3546 : decode cL_law 3546 = .ok (.invokevirtual 363, 3) := by decide +kernel
theorem dL_law_3549 : decode cL_law 3549 = .ok (.istore 7, 2) := by decide +kernel
theorem dL_law_3551 : decode cL_law 3551 = .ok (.aload_n 2, 1) := by decide +kernel
theorem dL_law_3552 : decode cL_law 3552 = .ok (.invokevirtual 195, 3) := by decide +kernel
theorem dL_law_3555 : decode cL_law 3555 = .ok (.iload 6, 2) := by decide +kernel
theorem dL_law_3557 : decode cL_law 3557 = .ok (.if_icmp .eq 5, 3) := by decide +kernel
theorem dL_law_3560 : decode cL_law 3560 = .ok (.iconst 0, 1) := by decide +kernel
theorem dL_law_3561 : decode cL_law 3561 = .ok (.ireturn, 1) := by decide +kernel
theorem dL_law_3562 : decode cL_law 3562 = .ok (.iload 6, 2) := by decide +kernel
theorem dL_law_3564 : decode cL_law 3564 = .ok (.ifCond .ne 15, 3) := by decide +kernel
theorem dL_law_3567 : decode cL_law 3567 = .ok (.aload_n 3, 1) := by decide +kernel
theorem dL_law_3568 : decode cL_law 3568 = .ok (.iconst 0, 1) := by decide +kernel
theorem dL_law_3569 : decode cL_law 3569 = .ok (.laload, 1) := by decide +kernel
theorem dL_law_3570 : decode cL_law 3570 = .ok (.iload 7, 2) := by decide +kernel
theorem dL_law_3572 : decode cL_law 3572 = .ok (.i2l, 1) := by decide +kernel
theorem dL_law_3573 : decode cL_law 3573 = .ok (.lcmp, 1) := by decide +kernel
theorem dL_law_3574 : decode cL_law 3574 = .ok (.ifCond .eq 5, 3) := by decide +kernel
theorem dL_law_3577 : decode cL_law 3577 = .ok (.iconst 0, 1) := by decide +kernel
theorem dL_law_3578 : decode cL_law 3578 = .ok (.ireturn, 1) := by decide +kernel
theorem dL_law_3579 : decode cL_law 3579 = .ok (.goto 340, 3) := by decide +kernel
theorem dL_law_3582 : decode cL_law 3582 = .ok (.aload_n 1, 1) := by decide +kernel
theorem dL_law_3583 : decode cL_law 3583 = .ok (.aload_n 0, 1) := by decide +kernel
theorem dL_law_3584 : decode cL_law 3584 = .ok (.iload 5, 2) := by decide +kernel
theorem dL_law_3586 : decode cL_law 3586 = .ok (.iconst 1, 1) := by decide +kernel
theorem dL_law_3587 : decode cL_law 3587 = .ok (.iadd, 1) := by decide +kernel
theorem dL_law_3588 : decode cL_law 3588 = .ok (.iaload, 1) := by decide +kernel
theorem dL_law_3589 : decode cL_law 3589 = .ok (.aload_n 3, 1) := by decide +kernel
theorem dL_law_3590 : decode cL_law 3590 = .ok (.invokestatic 364, 3) := by decide +kernel
theorem dL_law_3593 : decode cL_law 3593 = .ok (.istore 6, 2) := by decide +kernel
theorem dL_law_3595 : decode cL_law 3595 = .ok (.aload_n 2, 1) := by decide +kernel
theorem dL_law_3596 : decode cL_law 3596 = .ok (.aload_n 0, 1) := by decide +kernel
theorem dL_law_3597 : decode cL_law 3597 = .ok (.iload 5, 2) := by decide +kernel
theorem dL_law_3599 : decode cL_law 3599 = .ok (.iconst 1, 1) := by decide +kernel
theorem dL_law_3600 : decode cL_law 3600 = .ok (.iadd, 1) := by decide +kernel
theorem dL_law_3601 : decode cL_law 3601 = .ok (.iaload, 1) := by decide +kernel
theorem dL_law_3602 : decode cL_law 3602 = .ok (.invokevirtual 366, 3) := by decide +kernel
theorem dL_law_3605 : decode cL_law 3605 = .ok (.istore 7, 2) := by decide +kernel
theorem dL_law_3607 : decode cL_law 3607 = .ok (.aload_n 2, 1) := by decide +kernel
theorem dL_law_3608 : decode cL_law 3608 = .ok (.invokevirtual 195, 3) := by decide +kernel
theorem dL_law_3611 : decode cL_law 3611 = .ok (.iload 6, 2) := by decide +kernel
theorem dL_law_3613 : decode cL_law 3613 = .ok (.if_icmp .eq 5, 3) := by decide +kernel
theorem dL_law_3616 : decode cL_law 3616 = .ok (.iconst 0, 1) := by decide +kernel
theorem dL_law_3617 : decode cL_law 3617 = .ok (.ireturn, 1) := by decide +kernel
theorem dL_law_3618 : decode cL_law 3618 = .ok (.iload 6, 2) := by decide +kernel
theorem dL_law_3620 : decode cL_law 3620 = .ok (.ifCond .ne 15, 3) := by decide +kernel
theorem dL_law_3623 : decode cL_law 3623 = .ok (.aload_n 3, 1) := by decide +kernel
theorem dL_law_3624 : decode cL_law 3624 = .ok (.iconst 0, 1) := by decide +kernel
theorem dL_law_3625 : decode cL_law 3625 = .ok (.laload, 1) := by decide +kernel
theorem dL_law_3626 : decode cL_law 3626 = .ok (.iload 7, 2) := by decide +kernel
theorem dL_law_3628 : decode cL_law 3628 = .ok (.i2l, 1) := by decide +kernel
theorem dL_law_3629 : decode cL_law 3629 = .ok (.lcmp, 1) := by decide +kernel
theorem dL_law_3630 : decode cL_law 3630 = .ok (.ifCond .eq 5, 3) := by decide +kernel
theorem dL_law_3633 : decode cL_law 3633 = .ok (.iconst 0, 1) := by decide +kernel
theorem dL_law_3634 : decode cL_law 3634 = .ok (.ireturn, 1) := by decide +kernel
theorem dL_law_3635 : decode cL_law 3635 = .ok (.goto 284, 3) := by decide +kernel
theorem dL_law_3638 : decode cL_law 3638 = .ok (.aload_n 1, 1) := by decide +kernel
theorem dL_law_3639 : decode cL_law 3639 = .ok (.aload_n 0, 1) := by decide +kernel
theorem dL_law_3640 : decode cL_law 3640 = .ok (.iload 5, 2) := by decide +kernel
theorem dL_law_3642 : decode cL_law 3642 = .ok (.iconst 1, 1) := by decide +kernel
theorem dL_law_3643 : decode cL_law 3643 = .ok (.iadd, 1) := by decide +kernel
theorem dL_law_3644 : decode cL_law 3644 = .ok (.iaload, 1) := by decide +kernel
theorem dL_law_3645 : decode cL_law 3645 = .ok (.aload_n 3, 1) := by decide +kernel
theorem dL_law_3646 : decode cL_law 3646 = .ok (.invokestatic 367, 3) := by decide +kernel
theorem dL_law_3649 : decode cL_law 3649 = .ok (.istore 6, 2) := by decide +kernel
theorem dL_law_3651 : decode cL_law 3651 = .ok (.aload_n 2, 1) := by decide +kernel
theorem dL_law_3652 : decode cL_law 3652 = .ok (.aload_n 0, 1) := by decide +kernel
theorem dL_law_3653 : decode cL_law 3653 = .ok (.iload 5, 2) := by decide +kernel
theorem dL_law_3655 : decode cL_law 3655 = .ok (.iconst 1, 1) := by decide +kernel
theorem dL_law_3656 : decode cL_law 3656 = .ok (.iadd, 1) := by decide +kernel
theorem dL_law_3657 : decode cL_law 3657 = .ok (.iaload, 1) := by decide +kernel
theorem dL_law_3658 : decode cL_law 3658 = .ok (.invokevirtual 369, 3) := by decide +kernel
theorem dL_law_3661 : decode cL_law 3661 = .ok (.istore 7, 2) := by decide +kernel
theorem dL_law_3663 : decode cL_law 3663 = .ok (.aload_n 2, 1) := by decide +kernel
theorem dL_law_3664 : decode cL_law 3664 = .ok (.invokevirtual 195, 3) := by decide +kernel
theorem dL_law_3667 : decode cL_law 3667 = .ok (.iload 6, 2) := by decide +kernel
theorem dL_law_3669 : decode cL_law 3669 = .ok (.if_icmp .eq 5, 3) := by decide +kernel
theorem dL_law_3672 : decode cL_law 3672 = .ok (.iconst 0, 1) := by decide +kernel
theorem dL_law_3673 : decode cL_law 3673 = .ok (.ireturn, 1) := by decide +kernel
theorem dL_law_3674 : decode cL_law 3674 = .ok (.iload 6, 2) := by decide +kernel
theorem dL_law_3676 : decode cL_law 3676 = .ok (.ifCond .ne 15, 3) := by decide +kernel
theorem dL_law_3679 : decode cL_law 3679 = .ok (.aload_n 3, 1) := by decide +kernel
theorem dL_law_3680 : decode cL_law 3680 = .ok (.iconst 0, 1) := by decide +kernel
theorem dL_law_3681 : decode cL_law 3681 = .ok (.laload, 1) := by decide +kernel
theorem dL_law_3682 : decode cL_law 3682 = .ok (.iload 7, 2) := by decide +kernel
theorem dL_law_3684 : decode cL_law 3684 = .ok (.i2l, 1) := by decide +kernel
theorem dL_law_3685 : decode cL_law 3685 = .ok (.lcmp, 1) := by decide +kernel
theorem dL_law_3686 : decode cL_law 3686 = .ok (.ifCond .eq 5, 3) := by decide +kernel
theorem dL_law_3689 : decode cL_law 3689 = .ok (.iconst 0, 1) := by decide +kernel
theorem dL_law_3690 : decode cL_law 3690 = .ok (.ireturn, 1) := by decide +kernel
theorem dL_law_3691 : decode cL_law 3691 = .ok (.goto 228, 3) := by decide +kernel
theorem dL_law_3694 : decode cL_law 3694 = .ok (.aload_n 1, 1) := by decide +kernel
theorem dL_law_3695 : decode cL_law 3695 = .ok (.aload_n 3, 1) := by decide +kernel
theorem dL_law_3696 : decode cL_law 3696 = .ok (.invokestatic 370, 3) := by decide +kernel
theorem dL_law_3699 : decode cL_law 3699 = .ok (.istore 6, 2) := by decide +kernel
theorem dL_law_3701 : decode cL_law 3701 = .ok (.aload_n 2, 1) := by decide +kernel
theorem dL_law_3702 : decode cL_law 3702 = .ok (.invokevirtual 372, 3) := by decide +kernel
theorem dL_law_3705 : decode cL_law 3705 = .ok (.istore 7, 2) := by decide +kernel
theorem dL_law_3707 : decode cL_law 3707 = .ok (.aload_n 2, 1) := by decide +kernel
theorem dL_law_3708 : decode cL_law 3708 = .ok (.invokevirtual 195, 3) := by decide +kernel
theorem dL_law_3711 : decode cL_law 3711 = .ok (.iload 6, 2) := by decide +kernel
theorem dL_law_3713 : decode cL_law 3713 = .ok (.if_icmp .eq 5, 3) := by decide +kernel
theorem dL_law_3716 : decode cL_law 3716 = .ok (.iconst 0, 1) := by decide +kernel
theorem dL_law_3717 : decode cL_law 3717 = .ok (.ireturn, 1) := by decide +kernel
theorem dL_law_3718 : decode cL_law 3718 = .ok (.iload 6, 2) := by decide +kernel
theorem dL_law_3720 : decode cL_law 3720 = .ok (.ifCond .ne 15, 3) := by decide +kernel
theorem dL_law_3723 : decode cL_law 3723 = .ok (.aload_n 3, 1) := by decide +kernel
theorem dL_law_3724 : decode cL_law 3724 = .ok (.iconst 0, 1) := by decide +kernel
theorem dL_law_3725 : decode cL_law 3725 = .ok (.laload, 1) := by decide +kernel
theorem dL_law_3726 : decode cL_law 3726 = .ok (.iload 7, 2) := by decide +kernel
theorem dL_law_3728 : decode cL_law 3728 = .ok (.i2l, 1) := by decide +kernel
theorem dL_law_3729 : decode cL_law 3729 = .ok (.lcmp, 1) := by decide +kernel
theorem dL_law_3730 : decode cL_law 3730 = .ok (.ifCond .eq 5, 3) := by decide +kernel
theorem dL_law_3733 : decode cL_law 3733 = .ok (.iconst 0, 1) := by decide +kernel
theorem dL_law_3734 : decode cL_law 3734 = .ok (.ireturn, 1) := by decide +kernel
theorem dL_law_3735 : decode cL_law 3735 = .ok (.goto 184, 3) := by decide +kernel
theorem dL_law_3738 : decode cL_law 3738 = .ok (.aload_n 1, 1) := by decide +kernel
theorem dL_law_3739 : decode cL_law 3739 = .ok (.invokevirtual 373, 3) := by decide +kernel
theorem dL_law_3742 : decode cL_law 3742 = .ok (.aload_n 2, 1) := by decide +kernel
theorem dL_law_3743 : decode cL_law 3743 = .ok (.invokevirtual 376, 3) := by decide +kernel
theorem dL_law_3746 : decode cL_law 3746 = .ok (.if_icmp .eq 173, 3) := by decide +kernel
theorem dL_law_3749 : decode cL_law 3749 = .ok (.iconst 0, 1) := by decide +kernel
theorem dL_law_3750 : decode cL_law 3750 = .ok (.ireturn, 1) := by decide +kernel
theorem dL_law_3751 : decode cL_law 3751 = .ok (.aload_n 1, 1) := by decide +kernel
theorem dL_law_3752 : decode cL_law 3752 = .ok (.aload_n 0, 1) := by decide +kernel
theorem dL_law_3753 : decode cL_law 3753 = .ok (.iload 5, 2) := by decide +kernel
theorem dL_law_3755 : decode cL_law 3755 = .ok (.iconst 1, 1) := by decide +kernel
theorem dL_law_3756 : decode cL_law 3756 = .ok (.iadd, 1) := by decide +kernel
theorem dL_law_3757 : decode cL_law 3757 = .ok (.iaload, 1) := by decide +kernel
theorem dL_law_3758 : decode cL_law 3758 = .ok (.aload_n 3, 1) := by decide +kernel
theorem dL_law_3759 : decode cL_law 3759 = .ok (.invokestatic 377, 3) := by decide +kernel
theorem dL_law_3762 : decode cL_law 3762 = .ok (.istore 6, 2) := by decide +kernel
theorem dL_law_3764 : decode cL_law 3764 = .ok (.aload_n 2, 1) := by decide +kernel
theorem dL_law_3765 : decode cL_law 3765 = .ok (.aload_n 0, 1) := by decide +kernel
theorem dL_law_3766 : decode cL_law 3766 = .ok (.iload 5, 2) := by decide +kernel
theorem dL_law_3768 : decode cL_law 3768 = .ok (.iconst 1, 1) := by decide +kernel
theorem dL_law_3769 : decode cL_law 3769 = .ok (.iadd, 1) := by decide +kernel
theorem dL_law_3770 : decode cL_law 3770 = .ok (.iaload, 1) := by decide +kernel
theorem dL_law_3771 : decode cL_law 3771 = .ok (.invokevirtual 379, 3) := by decide +kernel
theorem dL_law_3774 : decode cL_law 3774 = .ok (.istore 7, 2) := by decide +kernel
theorem dL_law_3776 : decode cL_law 3776 = .ok (.aload_n 2, 1) := by decide +kernel
theorem dL_law_3777 : decode cL_law 3777 = .ok (.invokevirtual 195, 3) := by decide +kernel
theorem dL_law_3780 : decode cL_law 3780 = .ok (.iload 6, 2) := by decide +kernel
theorem dL_law_3782 : decode cL_law 3782 = .ok (.if_icmp .eq 5, 3) := by decide +kernel
theorem dL_law_3785 : decode cL_law 3785 = .ok (.iconst 0, 1) := by decide +kernel
theorem dL_law_3786 : decode cL_law 3786 = .ok (.ireturn, 1) := by decide +kernel
theorem dL_law_3787 : decode cL_law 3787 = .ok (.iload 6, 2) := by decide +kernel
theorem dL_law_3789 : decode cL_law 3789 = .ok (.ifCond .ne 15, 3) := by decide +kernel
theorem dL_law_3792 : decode cL_law 3792 = .ok (.aload_n 3, 1) := by decide +kernel
theorem dL_law_3793 : decode cL_law 3793 = .ok (.iconst 0, 1) := by decide +kernel
theorem dL_law_3794 : decode cL_law 3794 = .ok (.laload, 1) := by decide +kernel
theorem dL_law_3795 : decode cL_law 3795 = .ok (.iload 7, 2) := by decide +kernel
theorem dL_law_3797 : decode cL_law 3797 = .ok (.i2l, 1) := by decide +kernel
theorem dL_law_3798 : decode cL_law 3798 = .ok (.lcmp, 1) := by decide +kernel
theorem dL_law_3799 : decode cL_law 3799 = .ok (.ifCond .eq 5, 3) := by decide +kernel
theorem dL_law_3802 : decode cL_law 3802 = .ok (.iconst 0, 1) := by decide +kernel
theorem dL_law_3803 : decode cL_law 3803 = .ok (.ireturn, 1) := by decide +kernel
theorem dL_law_3804 : decode cL_law 3804 = .ok (.goto 115, 3) := by decide +kernel
theorem dL_law_3807 : decode cL_law 3807 = .ok (.aload_n 1, 1) := by decide +kernel
theorem dL_law_3808 : decode cL_law 3808 = .ok (.aload_n 0, 1) := by decide +kernel
theorem dL_law_3809 : decode cL_law 3809 = .ok (.iload 5, 2) := by decide +kernel
theorem dL_law_3811 : decode cL_law 3811 = .ok (.iconst 1, 1) := by decide +kernel
theorem dL_law_3812 : decode cL_law 3812 = .ok (.iadd, 1) := by decide +kernel
theorem dL_law_3813 : decode cL_law 3813 = .ok (.iaload, 1) := by decide +kernel
theorem dL_law_3814 : decode cL_law 3814 = .ok (.aload_n 3, 1) := by decide +kernel
theorem dL_law_3815 : decode cL_law 3815 = .ok (.invokestatic 380, 3) := by decide +kernel
theorem dL_law_3818 : decode cL_law 3818 = .ok (.istore 6, 2) := by decide +kernel
theorem dL_law_3820 : decode cL_law 3820 = .ok (.aload_n 2, 1) := by decide +kernel
theorem dL_law_3821 : decode cL_law 3821 = .ok (.aload_n 0, 1) := by decide +kernel
theorem dL_law_3822 : decode cL_law 3822 = .ok (.iload 5, 2) := by decide +kernel
theorem dL_law_3824 : decode cL_law 3824 = .ok (.iconst 1, 1) := by decide +kernel
theorem dL_law_3825 : decode cL_law 3825 = .ok (.iadd, 1) := by decide +kernel
theorem dL_law_3826 : decode cL_law 3826 = .ok (.iaload, 1) := by decide +kernel
theorem dL_law_3827 : decode cL_law 3827 = .ok (.invokevirtual 382, 3) := by decide +kernel
theorem dL_law_3830 : decode cL_law 3830 = .ok (.istore 7, 2) := by decide +kernel
theorem dL_law_3832 : decode cL_law 3832 = .ok (.aload_n 2, 1) := by decide +kernel
theorem dL_law_3833 : decode cL_law 3833 = .ok (.invokevirtual 195, 3) := by decide +kernel
theorem dL_law_3836 : decode cL_law 3836 = .ok (.iload 6, 2) := by decide +kernel
theorem dL_law_3838 : decode cL_law 3838 = .ok (.if_icmp .eq 5, 3) := by decide +kernel
theorem dL_law_3841 : decode cL_law 3841 = .ok (.iconst 0, 1) := by decide +kernel
theorem dL_law_3842 : decode cL_law 3842 = .ok (.ireturn, 1) := by decide +kernel
theorem dL_law_3843 : decode cL_law 3843 = .ok (.iload 6, 2) := by decide +kernel
theorem dL_law_3845 : decode cL_law 3845 = .ok (.ifCond .ne 15, 3) := by decide +kernel
theorem dL_law_3848 : decode cL_law 3848 = .ok (.aload_n 3, 1) := by decide +kernel
theorem dL_law_3849 : decode cL_law 3849 = .ok (.iconst 0, 1) := by decide +kernel
theorem dL_law_3850 : decode cL_law 3850 = .ok (.laload, 1) := by decide +kernel
theorem dL_law_3851 : decode cL_law 3851 = .ok (.iload 7, 2) := by decide +kernel
theorem dL_law_3853 : decode cL_law 3853 = .ok (.i2l, 1) := by decide +kernel
theorem dL_law_3854 : decode cL_law 3854 = .ok (.lcmp, 1) := by decide +kernel
theorem dL_law_3855 : decode cL_law 3855 = .ok (.ifCond .eq 5, 3) := by decide +kernel
theorem dL_law_3858 : decode cL_law 3858 = .ok (.iconst 0, 1) := by decide +kernel
theorem dL_law_3859 : decode cL_law 3859 = .ok (.ireturn, 1) := by decide +kernel
theorem dL_law_3860 : decode cL_law 3860 = .ok (.goto 59, 3) := by decide +kernel
theorem dL_law_3863 : decode cL_law 3863 = .ok (.aload_n 1, 1) := by decide +kernel
theorem dL_law_3864 : decode cL_law 3864 = .ok (.aload_n 0, 1) := by decide +kernel
theorem dL_law_3865 : decode cL_law 3865 = .ok (.iload 5, 2) := by decide +kernel
theorem dL_law_3867 : decode cL_law 3867 = .ok (.iconst 1, 1) := by decide +kernel
theorem dL_law_3868 : decode cL_law 3868 = .ok (.iadd, 1) := by decide +kernel
theorem dL_law_3869 : decode cL_law 3869 = .ok (.iaload, 1) := by decide +kernel
theorem dL_law_3870 : decode cL_law 3870 = .ok (.aload_n 3, 1) := by decide +kernel
theorem dL_law_3871 : decode cL_law 3871 = .ok (.invokestatic 383, 3) := by decide +kernel
theorem dL_law_3874 : decode cL_law 3874 = .ok (.istore 6, 2) := by decide +kernel
theorem dL_law_3876 : decode cL_law 3876 = .ok (.aload_n 2, 1) := by decide +kernel
theorem dL_law_3877 : decode cL_law 3877 = .ok (.aload_n 0, 1) := by decide +kernel
theorem dL_law_3878 : decode cL_law 3878 = .ok (.iload 5, 2) := by decide +kernel
theorem dL_law_3880 : decode cL_law 3880 = .ok (.iconst 1, 1) := by decide +kernel
theorem dL_law_3881 : decode cL_law 3881 = .ok (.iadd, 1) := by decide +kernel
theorem dL_law_3882 : decode cL_law 3882 = .ok (.iaload, 1) := by decide +kernel
theorem dL_law_3883 : decode cL_law 3883 = .ok (.invokevirtual 385, 3) := by decide +kernel
theorem dL_law_3886 : decode cL_law 3886 = .ok (.istore 7, 2) := by decide +kernel
theorem dL_law_3888 : decode cL_law 3888 = .ok (.aload_n 2, 1) := by decide +kernel
theorem dL_law_3889 : decode cL_law 3889 = .ok (.invokevirtual 195, 3) := by decide +kernel
theorem dL_law_3892 : decode cL_law 3892 = .ok (.iload 6, 2) := by decide +kernel
theorem dL_law_3894 : decode cL_law 3894 = .ok (.if_icmp .eq 5, 3) := by decide +kernel
theorem dL_law_3897 : decode cL_law 3897 = .ok (.iconst 0, 1) := by decide +kernel
theorem dL_law_3898 : decode cL_law 3898 = .ok (.ireturn, 1) := by decide +kernel
theorem dL_law_3899 : decode cL_law 3899 = .ok (.iload 6, 2) := by decide +kernel
theorem dL_law_3901 : decode cL_law 3901 = .ok (.ifCond .ne 15, 3) := by decide +kernel
theorem dL_law_3904 : decode cL_law 3904 = .ok (.aload_n 3, 1) := by decide +kernel
theorem dL_law_3905 : decode cL_law 3905 = .ok (.iconst 0, 1) := by decide +kernel
theorem dL_law_3906 : decode cL_law 3906 = .ok (.laload, 1) := by decide +kernel
theorem dL_law_3907 : decode cL_law 3907 = .ok (.iload 7, 2) := by decide +kernel
theorem dL_law_3909 : decode cL_law 3909 = .ok (.i2l, 1) := by decide +kernel
theorem dL_law_3910 : decode cL_law 3910 = .ok (.lcmp, 1) := by decide +kernel
theorem dL_law_3911 : decode cL_law 3911 = .ok (.ifCond .eq 5, 3) := by decide +kernel
theorem dL_law_3914 : decode cL_law 3914 = .ok (.iconst 0, 1) := by decide +kernel
theorem dL_law_3915 : decode cL_law 3915 = .ok (.ireturn, 1) := by decide +kernel
theorem dL_law_3916 : decode cL_law 3916 = .ok (.goto 3, 3) := by decide +kernel
theorem dL_law_3919 : decode cL_law 3919 = .ok (.iinc 5 6, 3) := by decide +kernel
theorem dL_law_3922 : decode cL_law 3922 = .ok (.goto (-3894), 3) := by decide +kernel
theorem dL_law_3925 : decode cL_law 3925 = .ok (.iconst 1, 1) := by decide +kernel
theorem dL_law_3926 : decode cL_law 3926 = .ok (.ireturn, 1) := by decide +kernel
