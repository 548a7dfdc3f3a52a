noncomputable def f_X0_init  (a0 a1 : Int) (σ : zS) : zFn := if 0 ≤ a0 then if a1 < 0 then zna 2 0 0 σ fun x4 τ5 => zpr 0 0 a0 x4 τ5 fun τ6 => some (.inl 0, τ6) else (zna 2 1224 a1 σ fun x1 τ2 => zpr 0 0 a0 x1 τ2 fun τ3 => some (.inl 0, τ3)) else none

noncomputable def f_X0_at  (a0 a1 : Int) (σ : zS) : zFn := if a1 < 0 then some (.inl (-1), σ) else (zgf 0 1 a0 σ fun x1 => if a1 < x1 then zgr 0 0 a0 σ fun x2 => zal x2 σ fun x3 => if a1 < x3 then zgr 0 0 a0 σ fun x4 => zld 2 x4 a1 σ fun x5 => some (.inl (zand x5 255), σ) else (some (.inl (-1), σ)) else (some (.inl (-1), σ)))

noncomputable def f_X0_add  (a0 a1 : Int) (σ : zS) : zFn := zgf 0 1 a0 σ fun x1 => if x1 < 0 then some (.inl 0, σ) else (zgf 0 1 a0 σ fun x2 => zgr 0 0 a0 σ fun x3 => zal x3 σ fun x4 => if x2 < x4 then zgr 0 0 a0 σ fun x5 => zgf 0 1 a0 σ fun x6 => zsi 2 x5 x6 (w8 (w8 a1)) σ fun τ7 => zgf 0 1 a0 τ7 fun x8 => zpf 0 1 a0 (w32 (x8 + 1)) τ7 fun τ9 => some (.inl 0, τ9) else (some (.inl 0, σ)))

noncomputable def f_X0_addFour  (a0 a1 : Int) (σ : zS) : zFn := zob 0 a0 σ (zbn (f_X0_add a0 (zshr a1 24) σ) fun _ τ2 => zob 0 a0 τ2 (zbn (f_X0_add a0 (zshr a1 16) τ2) fun _ τ4 => zob 0 a0 τ4 (zbn (f_X0_add a0 (zshr a1 8) τ4) fun _ τ6 => zob 0 a0 τ6 (zbn (f_X0_add a0 a1 τ6) fun _ τ8 => some (.inl 0, τ8)))))

noncomputable def f_X0_nameCode_23  : Nat → Int → Int → Int → Int → zS → zFn
  | 0, _, _, _, _, _ => none
  | n + 1, a0, a2, a4, a5, σ => if a5 < a2 then zob 0 a0 σ (zbn (f_X0_at a0 a5 σ) fun x1 τ2 => if x1 < 97 then some (.inl (-1), τ2) else if 122 < x1 then some (.inl (-1), τ2) else (f_X0_nameCode_23  n a0 a2 (w32 ((w32 ((w32 ((zshl a4 5) + x1)) - 97)) + 1)) (w32 (a5 + 1)) τ2)) else (some (.inl a4, σ))

noncomputable def f_X0_nameCode  (a0 a1 a2 : Int) (σ : zS) : zFn := if (w32 (a2 - a1)) < 1 then some (.inl (-1), σ) else if 6 < (w32 (a2 - a1)) then some (.inl (-1), σ) else (f_X0_nameCode_23  zFU a0 a2 0 a1 σ)

noncomputable def f_X3_init  (a0 : Int) (σ : zS) : zFn := if 0 ≤ a0 then zna 1 6 6 σ fun x1 τ2 => zpr 3 0 a0 x1 τ2 fun τ3 => some (.inl 0, τ3) else none

noncomputable def f_X5_init  (a0 a1 : Int) (σ : zS) : zFn := if 0 ≤ a0 then if a1 < 0 then zna 1 0 0 σ fun x4 τ5 => zpr 5 0 a0 x4 τ5 fun τ6 => some (.inl 0, τ6) else (zna 1 800 (w32 (a1 * 8)) σ fun x1 τ2 => zpr 5 0 a0 x1 τ2 fun τ3 => some (.inl 0, τ3)) else none

noncomputable def f_X1_putRule  (a0 a1 a2 : Int) (σ : zS) : zFn := if a1 < 0 then some (.inl 0, σ) else (zgr 1 0 a0 σ fun x1 => zal x1 σ fun x2 => if a1 < x2 then zgr 1 0 a0 σ fun x3 => zsi 1 x3 a1 a2 σ fun τ4 => some (.inl 0, τ4) else (some (.inl 0, σ)))

noncomputable def f_J7_fill_53178_5  : Nat → Int → Int → Int → Int → zS → zFn
  | 0, _, _, _, _, _ => none
  | n + 1, a0, a1, a2, a3, σ => if a2 < a3 then zsi 1 a0 a2 a1 σ fun τ1 => f_J7_fill_53178_5  n a0 a1 (w32 (a2 + 1)) a3 τ1 else (some (.inl 0, σ))

noncomputable def f_J7_fill_53178  (a0 a1 : Int) (σ : zS) : zFn := zal a0 σ fun x1 => f_J7_fill_53178_5  zFU a0 a1 0 x1 σ

noncomputable def f_X1_listOf_23  (a0 s0 : Int) (σ : zS) : zFn := if s0 < 0 then zgr 1 5 a0 σ fun x1 => some (.inl x1, σ) else (some (.inl s0, σ))

noncomputable def f_X1_listOf_22  (a0 : Int) (σ : zS) : zFn := f_X1_listOf_23  a0 (-1) σ

noncomputable def f_X1_listOf  (a0 a1 : Int) (σ : zS) : zFn := if a1 < 0 then f_X1_listOf_22  a0 σ else (zgr 1 4 a0 σ fun x1 => zal x1 σ fun x2 => if a1 < x2 then zgr 1 4 a0 σ fun x3 => zlr 6 x3 a1 σ fun x4 => f_X1_listOf_23  a0 x4 σ else (f_X1_listOf_22  a0 σ))

noncomputable def f_X1_reset_73  (a0 : Int) (σ : zS) : zFn := zgr 1 6 a0 σ fun x1 => zpf 5 1 x1 0 σ fun τ2 => zgr 1 7 a0 τ2 fun x3 => zbn (f_J7_fill_53178 x3 0 τ2) fun _ τ5 => zpf 1 8 a0 0 τ5 fun τ6 => some (.inl 0, τ6)

noncomputable def f_X1_reset_49  : Nat → Int → Int → zS → zFn
  | 0, _, _, _ => none
  | n + 1, a0, a1, σ => zgr 1 4 a0 σ fun x1 => zal x1 σ fun x2 => if a1 < x2 then zob 1 a0 σ (zbn (f_X1_listOf a0 a1 σ) fun x3 τ4 => zpf 5 1 x3 0 τ4 fun τ5 => f_X1_reset_49  n a0 (w32 (a1 + 1)) τ5) else (f_X1_reset_73  a0 σ)

noncomputable def f_X1_reset_23  (a0 : Int) (σ : zS) : zFn := zgr 1 1 a0 σ fun x1 => zpf 3 1 x1 0 σ fun τ2 => zgr 1 2 a0 τ2 fun x3 => zpf 3 1 x3 0 τ2 fun τ4 => zgr 1 3 a0 τ4 fun x5 => zbn (f_J7_fill_53178 x5 (-1) τ4) fun _ τ7 => f_X1_reset_49  zFU a0 0 τ7

noncomputable def f_X1_reset_2  : Nat → Int → Int → zS → zFn
  | 0, _, _, _ => none
  | n + 1, a0, a1, σ => if a1 < 5 then zsa 2 a1 fun x1 => zob 1 a0 σ (zbn (f_X1_putRule a0 a1 x1 σ) fun _ τ3 => f_X1_reset_2  n a0 (w32 (a1 + 1)) τ3) else (f_X1_reset_23  a0 σ)

noncomputable def f_X1_reset  (a0 : Int) (σ : zS) : zFn := f_X1_reset_2  zFU a0 0 σ

noncomputable def f_X1_init_115  (a0 : Int) (σ : zS) : zFn := zob 1 a0 σ (zbn (f_X1_reset a0 σ) fun _ τ2 => some (.inl 0, τ2))

noncomputable def f_X1_init_85  : Nat → Int → Int → zS → zFn
  | 0, _, _, _ => none
  | n + 1, a0, a1, σ => zgr 1 4 a0 σ fun x1 => zal x1 σ fun x2 => if a1 < x2 then zgr 1 4 a0 σ fun x3 => znw σ (0, 5) fun x4 τ5 => if 0 ≤ x4 then zbn (f_X5_init x4 36 τ5) fun _ τ7 => if x4 < 0 ∨ τ7.1.1 x4 = some (0, 5) then zsr_ 6 x3 a1 x4 τ7 fun τ8 => f_X1_init_85  n a0 (w32 (a1 + 1)) τ8 else none else none else (f_X1_init_115  a0 σ)

noncomputable def f_X1_init  (a0 : Int) (σ : zS) : zFn := if 0 ≤ a0 then zna 1 5 5 σ fun x1 τ2 => zpr 1 0 a0 x1 τ2 fun τ3 => znw τ3 (0, 3) fun x4 τ5 => if 0 ≤ x4 then zbn (f_X3_init x4 τ5) fun _ τ7 => zpr 1 1 a0 x4 τ7 fun τ8 => znw τ8 (0, 3) fun x9 τ10 => if 0 ≤ x9 then zbn (f_X3_init x9 τ10) fun _ τ12 => zpr 1 2 a0 x9 τ12 fun τ13 => zna 1 36 36 τ13 fun x14 τ15 => zpr 1 3 a0 x14 τ15 fun τ16 => zna 6 6 6 τ16 fun x17 τ18 => zpr 1 4 a0 x17 τ18 fun τ19 => znw τ19 (0, 5) fun x20 τ21 => if 0 ≤ x20 then zbn (f_X5_init x20 0 τ21) fun _ τ23 => zpr 1 5 a0 x20 τ23 fun τ24 => znw τ24 (0, 5) fun x25 τ26 => if 0 ≤ x25 then zbn (f_X5_init x25 100 τ26) fun _ τ28 => zpr 1 6 a0 x25 τ28 fun τ29 => zna 1 30 30 τ29 fun x30 τ31 => zpr 1 7 a0 x30 τ31 fun τ32 => f_X1_init_85  7 a0 0 τ32 else none else none else none else none else none

noncomputable def f_X1_rule  (a0 a1 : Int) (σ : zS) : zFn := if a1 < 0 then some (.inl (-1), σ) else (zgr 1 0 a0 σ fun x1 => zal x1 σ fun x2 => if a1 < x2 then zgr 1 0 a0 σ fun x3 => zld 1 x3 a1 σ fun x4 => some (.inl x4, σ) else (some (.inl (-1), σ)))

noncomputable def f_X3_copyFrom  (a0 a1 : Int) (σ : zS) : zFn := zgf 3 1 a1 σ fun x1 => zpf 3 1 a0 x1 σ fun τ2 => zgr 3 0 a1 τ2 fun x3 => zgr 3 0 a0 τ2 fun x4 => zgr 3 0 a1 τ2 fun x5 => zal x5 τ2 fun x6 => zgr 3 0 a0 τ2 fun x7 => zal x7 τ2 fun x8 => zac x3 0 x4 0 (min x6 x8) τ2 fun τ9 => some (.inl 0, τ9)

noncomputable def f_X5_copyFrom  (a0 a1 : Int) (σ : zS) : zFn := zgf 5 1 a1 σ fun x1 => zgr 5 0 a1 σ fun x2 => zal x2 σ fun x3 => zgr 5 0 a0 σ fun x4 => zal x4 σ fun x5 => if 0 < (min (w32 (x1 * 8)) (min x3 x5)) then zgr 5 0 a1 σ fun x8 => zgr 5 0 a0 σ fun x9 => zac x8 0 x9 0 (min (w32 (x1 * 8)) (min x3 x5)) σ fun τ10 => zgf 5 1 a1 τ10 fun x11 => zpf 5 1 a0 x11 τ10 fun τ12 => some (.inl 0, τ12) else (zgf 5 1 a1 σ fun x6 => zpf 5 1 a0 x6 σ fun τ7 => some (.inl 0, τ7))

noncomputable def f_X1_become_101  (a0 a1 : Int) (σ : zS) : zFn := zgr 1 6 a0 σ fun x1 => zgr 1 6 a1 σ fun x2 => zob 5 x1 σ (zbn (f_X5_copyFrom x1 x2 σ) fun _ τ4 => zgr 1 7 a1 τ4 fun x5 => zgr 1 7 a0 τ4 fun x6 => zgr 1 7 a1 τ4 fun x7 => zal x7 τ4 fun x8 => zgr 1 7 a0 τ4 fun x9 => zal x9 τ4 fun x10 => zac x5 0 x6 0 (min x8 x10) τ4 fun τ11 => zgf 1 8 a1 τ11 fun x12 => zpf 1 8 a0 x12 τ11 fun τ13 => some (.inl 0, τ13))

noncomputable def f_X1_become_73  : Nat → Int → Int → Int → zS → zFn
  | 0, _, _, _, _ => none
  | n + 1, a0, a1, a2, σ => zgr 1 4 a0 σ fun x1 => zal x1 σ fun x2 => if a2 < x2 then zob 1 a0 σ (zbn (f_X1_listOf a0 a2 σ) fun x3 τ4 => zob 1 a1 τ4 (zbn (f_X1_listOf a1 a2 τ4) fun x5 τ6 => zob 5 x3 τ6 (zbn (f_X5_copyFrom x3 x5 τ6) fun _ τ8 => f_X1_become_73  n a0 a1 (w32 (a2 + 1)) τ8))) else (f_X1_become_101  a0 a1 σ)

noncomputable def f_X1_become_23  (a0 a1 : Int) (σ : zS) : zFn := zgr 1 1 a0 σ fun x1 => zgr 1 1 a1 σ fun x2 => zob 3 x1 σ (zbn (f_X3_copyFrom x1 x2 σ) fun _ τ4 => zgr 1 2 a0 τ4 fun x5 => zgr 1 2 a1 τ4 fun x6 => zob 3 x5 τ4 (zbn (f_X3_copyFrom x5 x6 τ4) fun _ τ8 => zgr 1 3 a1 τ8 fun x9 => zgr 1 3 a0 τ8 fun x10 => zgr 1 3 a1 τ8 fun x11 => zal x11 τ8 fun x12 => zgr 1 3 a0 τ8 fun x13 => zal x13 τ8 fun x14 => zac x9 0 x10 0 (min x12 x14) τ8 fun τ15 => f_X1_become_73  zFU a0 a1 0 τ15))

noncomputable def f_X1_become_2  : Nat → Int → Int → Int → zS → zFn
  | 0, _, _, _, _ => none
  | n + 1, a0, a1, a2, σ => if a2 < 5 then zob 1 a1 σ (zbn (f_X1_rule a1 a2 σ) fun x1 τ2 => zob 1 a0 τ2 (zbn (f_X1_putRule a0 a2 x1 τ2) fun _ τ4 => f_X1_become_2  n a0 a1 (w32 (a2 + 1)) τ4)) else (f_X1_become_23  a0 a1 σ)

noncomputable def f_X1_become  (a0 a1 : Int) (σ : zS) : zFn := f_X1_become_2  zFU a0 a1 0 σ

noncomputable def f_X1_trustIn  (a0 a1 a2 : Int) (σ : zS) : zFn := if a1 < 0 then some (.inl (-1), σ) else if a1 < 6 then if a2 < 0 then some (.inl (-1), σ) else if a2 < 6 then zgr 1 3 a0 σ fun x1 => zal x1 σ fun x2 => if (w32 ((w32 (a1 * 6)) + a2)) < x2 then zgr 1 3 a0 σ fun x3 => zld 1 x3 (w32 ((w32 (a1 * 6)) + a2)) σ fun x4 => some (.inl x4, σ) else (some (.inl (-1), σ)) else (some (.inl (-1), σ)) else (some (.inl (-1), σ))

noncomputable def f_X1_putTrust  (a0 a1 a2 a3 : Int) (σ : zS) : zFn := if a1 < 0 then some (.inl 0, σ) else if a1 < 6 then if a2 < 0 then some (.inl 0, σ) else if a2 < 6 then zgr 1 3 a0 σ fun x1 => zal x1 σ fun x2 => if (w32 ((w32 (a1 * 6)) + a2)) < x2 then zgr 1 3 a0 σ fun x3 => zsi 1 x3 (w32 ((w32 (a1 * 6)) + a2)) a3 σ fun τ4 => some (.inl 0, τ4) else (some (.inl 0, σ)) else (some (.inl 0, σ)) else (some (.inl 0, σ))

noncomputable def f_X1_isLinked  (a0 a1 a2 : Int) (σ : zS) : zFn := zob 1 a0 σ (zbn (f_X1_trustIn a0 a1 a2 σ) fun x1 τ2 => if x1 = (-1) then some (.inl 0, τ2) else (some (.inl 1, τ2)))

noncomputable def f_X1_linkCount_48 (r4 : Int → Int → Int → zS → zFn) (a0 a1 a2 : Int) (σ : zS) : zFn := r4 a0 a1 (w32 (a2 + 1)) σ

noncomputable def f_X1_linkCount_42 (r4 : Int → Int → Int → zS → zFn) (r19 : Int → Int → Int → Int → zS → zFn) (a0 a1 a2 a3 : Int) (σ : zS) : zFn := r19 a0 a1 a2 (w32 (a3 + 1)) σ

noncomputable def f_X1_linkCount_19 (r4 : Int → Int → Int → zS → zFn) : Nat → Int → Int → Int → Int → zS → zFn
  | 0, _, _, _, _, _ => none
  | n + 1, a0, a1, a2, a3, σ => zgr 1 1 a0 σ fun x1 => zgf 3 1 x1 σ fun x2 => if a3 < x2 then zob 1 a0 σ (zbn (f_X1_isLinked a0 a2 a3 σ) fun x3 τ4 => if x3 = 0 then f_X1_linkCount_42 r4 (f_X1_linkCount_19 r4 n) a0 a1 a2 a3 τ4 else (f_X1_linkCount_42 r4 (f_X1_linkCount_19 r4 n) a0 (w32 (a1 + 1)) a2 a3 τ4)) else (f_X1_linkCount_48 r4 a0 a1 a2 σ)

noncomputable def f_X1_linkCount_4  : Nat → Int → Int → Int → zS → zFn
  | 0, _, _, _, _ => none
  | n + 1, a0, a1, a2, σ => zgr 1 1 a0 σ fun x1 => zgf 3 1 x1 σ fun x2 => if a2 < x2 then f_X1_linkCount_19 (f_X1_linkCount_4  n) zFU a0 a1 a2 (w32 (a2 + 1)) σ else (some (.inl a1, σ))

noncomputable def f_X1_linkCount  (a0 : Int) (σ : zS) : zFn := f_X1_linkCount_4  zFU a0 0 0 σ

noncomputable def f_X1_accountPlace_24  (a0 a1 s0 : Int) (σ : zS) : zFn := if s0 = 0 then some (.inl (-1), σ) else (some (.inl (w32 ((w32 (a0 * 5)) + a1)), σ))

noncomputable def f_X1_accountPlace_23  (a0 a1 : Int) (σ : zS) : zFn := f_X1_accountPlace_24  a0 a1 0 σ

noncomputable def f_X1_accountPlace  (a0 a1 : Int) (σ : zS) : zFn := if a0 < 0 then f_X1_accountPlace_23  a0 a1 σ else if a0 < 6 then if a1 < 0 then f_X1_accountPlace_23  a0 a1 σ else if a1 < 5 then f_X1_accountPlace_24  a0 a1 1 σ else (f_X1_accountPlace_23  a0 a1 σ) else (f_X1_accountPlace_23  a0 a1 σ)

noncomputable def f_X1_tally  (a0 a1 a2 : Int) (σ : zS) : zFn := zbn (f_X1_accountPlace a1 a2 σ) fun x1 τ2 => if x1 < 0 then some (.inl 0, τ2) else (zgr 1 7 a0 τ2 fun x3 => zal x3 τ2 fun x4 => if x1 < x4 then zgr 1 7 a0 τ2 fun x5 => zld 1 x5 x1 τ2 fun x6 => zsi 1 x5 x1 (w32 (x6 + 1)) τ2 fun τ7 => some (.inl 0, τ7) else (some (.inl 0, τ2)))

noncomputable def f_X5_get  (a0 a1 a2 : Int) (σ : zS) : zFn := if a1 < 0 then some (.inl (-1), σ) else (zgf 5 1 a0 σ fun x1 => if a1 < x1 then if a2 < 0 then some (.inl (-1), σ) else if a2 < 8 then if (w32 ((w32 (a1 * 8)) + a2)) < 0 then some (.inl (-1), σ) else (zgr 5 0 a0 σ fun x2 => zal x2 σ fun x3 => if (w32 ((w32 (a1 * 8)) + a2)) < x3 then zgr 5 0 a0 σ fun x4 => zld 1 x4 (w32 ((w32 (a1 * 8)) + a2)) σ fun x5 => some (.inl x5, σ) else (some (.inl (-1), σ))) else (some (.inl (-1), σ)) else (some (.inl (-1), σ)))

noncomputable def f_X1_isTooOld  (a0 a1 a2 : Int) (σ : zS) : zFn := zgf 1 8 a0 σ fun x1 => zob 5 a1 σ (zbn (f_X5_get a1 a2 4 σ) fun x2 τ3 => zob 1 a0 τ3 (zbn (f_X1_rule a0 3 τ3) fun x4 τ5 => if x4 < (w32 (x1 - x2)) then some (.inl 1, τ5) else (some (.inl 0, τ5))))

noncomputable def f_X1_driftOf  (a0 a1 a2 : Int) (σ : zS) : zFn := zob 1 a0 σ (zbn (f_X1_rule a0 0 σ) fun x1 τ2 => zgf 1 8 a0 τ2 fun x3 => zob 5 a1 τ2 (zbn (f_X5_get a1 a2 4 τ2) fun x4 τ5 => some (.inl (w32 (x1 * (w32 (x3 - x4)))), τ5)))

noncomputable def f_X1_beliefSpread  (a0 a1 a2 : Int) (σ : zS) : zFn := zob 1 a0 σ (zbn (f_X1_listOf a0 a1 σ) fun x1 τ2 => zob 5 x1 τ2 (zbn (f_X5_get x1 a2 1 τ2) fun x3 τ4 => zob 1 a0 τ4 (zbn (f_X1_driftOf a0 x1 a2 τ4) fun x5 τ6 => if x3 = a1 then some (.inl x5, τ6) else (zob 1 a0 τ6 (zbn (f_X1_rule a0 1 τ6) fun x7 τ8 => zob 1 a0 τ8 (zbn (f_X1_trustIn a0 a1 x3 τ8) fun x9 τ10 => zob 5 x1 τ10 (zbn (f_X5_get x1 a2 2 τ10) fun x11 τ12 => some (.inl (w32 (x5 + (w32 ((w32 (x7 * (w32 (10 - x9)))) * x11)))), τ12))))))))

noncomputable def f_X5_rowOf_32 (r2 : Int → Int → Int → Int → zS → zFn) (a0 a1 a2 a3 : Int) (σ : zS) : zFn := r2 a0 a1 a2 (w32 (a3 + 1)) σ

noncomputable def f_X5_rowOf_2  : Nat → Int → Int → Int → Int → zS → zFn
  | 0, _, _, _, _, _ => none
  | n + 1, a0, a1, a2, a3, σ => zgf 5 1 a0 σ fun x1 => if a3 < x1 then zob 5 a0 σ (zbn (f_X5_get a0 a3 0 σ) fun x2 τ3 => if x2 = a1 then zob 5 a0 τ3 (zbn (f_X5_get a0 a3 3 τ3) fun x4 τ5 => if x4 = a2 then some (.inl a3, τ5) else (f_X5_rowOf_32 (f_X5_rowOf_2  n) a0 a1 a2 a3 τ5)) else (f_X5_rowOf_32 (f_X5_rowOf_2  n) a0 a1 a2 a3 τ3)) else (some (.inl (-1), σ))

noncomputable def f_X5_rowOf  (a0 a1 a2 : Int) (σ : zS) : zFn := f_X5_rowOf_2  zFU a0 a1 a2 0 σ

noncomputable def f_X5_closeGap  (a0 a1 a2 : Int) (σ : zS) : zFn := zgf 5 1 a0 σ fun x1 => if (w32 (a1 * 8)) < 0 then some (.inl 0, σ) else if (w32 (a2 * 8)) < (w32 (a1 * 8)) then some (.inl 0, σ) else if (w32 ((w32 (x1 - a2)) * 8)) < 0 then some (.inl 0, σ) else (zgr 5 0 a0 σ fun x2 => zal x2 σ fun x3 => if x3 < (w32 ((w32 (a2 * 8)) + (w32 ((w32 (x1 - a2)) * 8)))) then some (.inl 0, σ) else (zgr 5 0 a0 σ fun x4 => zgr 5 0 a0 σ fun x5 => zac x4 (w32 (a2 * 8)) x5 (w32 (a1 * 8)) (w32 ((w32 (x1 - a2)) * 8)) σ fun τ6 => zgf 5 1 a0 τ6 fun x7 => zpf 5 1 a0 (w32 (x7 - (w32 (a2 - a1)))) τ6 fun τ8 => some (.inl 0, τ8)))

noncomputable def f_X5_removeRow  (a0 a1 : Int) (σ : zS) : zFn := if a1 < 0 then some (.inl 0, σ) else (zgf 5 1 a0 σ fun x1 => if a1 < x1 then zob 5 a0 σ (zbn (f_X5_closeGap a0 a1 (w32 (a1 + 1)) σ) fun _ τ3 => some (.inl 0, τ3)) else (some (.inl 0, σ)))

noncomputable def f_X5_isFull  (a0 : Int) (σ : zS) : zFn := zgf 5 1 a0 σ fun x1 => zgr 5 0 a0 σ fun x2 => zal x2 σ fun x3 => if x3 < (w32 ((w32 (x1 + 1)) * 8)) then some (.inl 1, σ) else (some (.inl 0, σ))

noncomputable def f_X5_addRow  (a0 : Int) (σ : zS) : zFn := zob 5 a0 σ (zbn (f_X5_isFull a0 σ) fun x1 τ2 => if x1 = 0 then zgf 5 1 a0 τ2 fun x3 => zpf 5 1 a0 (w32 (x3 + 1)) τ2 fun τ4 => zgf 5 1 a0 τ4 fun x5 => some (.inl (w32 (x5 - 1)), τ4) else (some (.inl (-1), τ2)))

noncomputable def f_X5_put  (a0 a1 a2 a3 : Int) (σ : zS) : zFn := if a1 < 0 then some (.inl 0, σ) else (zgf 5 1 a0 σ fun x1 => if a1 < x1 then if a2 < 0 then some (.inl 0, σ) else if a2 < 8 then if (w32 ((w32 (a1 * 8)) + a2)) < 0 then some (.inl 0, σ) else (zgr 5 0 a0 σ fun x2 => zal x2 σ fun x3 => if (w32 ((w32 (a1 * 8)) + a2)) < x3 then zgr 5 0 a0 σ fun x4 => zsi 1 x4 (w32 ((w32 (a1 * 8)) + a2)) a3 σ fun τ5 => some (.inl 0, τ5) else (some (.inl 0, σ))) else (some (.inl 0, σ)) else (some (.inl 0, σ)))

noncomputable def f_X5_lowMoved  (a0 a1 a2 : Int) (σ : zS) : zFn := zob 5 a0 σ (zbn (f_X5_get a0 a1 5 σ) fun x1 τ2 => some (.inl (max 0 (w32 (x1 - a2))), τ2))

noncomputable def f_X5_highMoved  (a0 a1 a2 : Int) (σ : zS) : zFn := zob 5 a0 σ (zbn (f_X5_get a0 a1 6 σ) fun x1 τ2 => some (.inl (min 999 (w32 (x1 + a2))), τ2))

noncomputable def f_X1_judge_153  (a10 s0 s1 s2 : Int) (σ : zS) : zFn := zob 1 s0 σ (zbn (f_X1_tally s0 s1 s2 σ) fun _ τ2 => if a10 = 0 ∨ a10 = 1 then some (.inl a10, τ2) else none)

noncomputable def f_X1_judge_120  (a0 a1 a5 a10 s0 s1 : Int) (σ : zS) : zFn := zob 1 a0 σ (zbn (f_X1_putTrust a0 a1 a5 (max 0 (min 10 (w32 (s0 + s1)))) σ) fun _ τ2 => if a10 = 0 then f_X1_judge_153  a10 a0 a1 3 τ2 else (f_X1_judge_153  a10 a0 a1 4 τ2))

noncomputable def f_X1_judge_100  (a0 a1 a5 s0 : Int) (σ : zS) : zFn := zob 1 a0 σ (zbn (f_X1_trustIn a0 a1 a5 σ) fun x1 τ2 => if s0 = 0 then f_X1_judge_120  a0 a1 a5 s0 x1 1 τ2 else (f_X1_judge_120  a0 a1 a5 s0 x1 (-2) τ2))

noncomputable def f_X1_judge  (a0 a1 a2 a3 : Int) (σ : zS) : zFn := zob 1 a0 σ (zbn (f_X1_listOf a0 a1 σ) fun x1 τ2 => zob 5 x1 τ2 (zbn (f_X5_get x1 a2 1 τ2) fun x3 τ4 => zob 1 a0 τ4 (zbn (f_X1_isLinked a0 a1 x3 τ4) fun x5 τ6 => if x5 = 0 then some (.inl 0, τ6) else (zob 1 a0 τ6 (zbn (f_X1_driftOf a0 x1 a2 τ6) fun x7 τ8 => zob 1 a0 τ8 (zbn (f_X1_driftOf a0 x1 a3 τ8) fun x9 τ10 => zob 5 x1 τ10 (zbn (f_X5_lowMoved x1 a2 x7 τ10) fun x11 τ12 => zob 5 x1 τ12 (zbn (f_X5_lowMoved x1 a3 x9 τ12) fun x13 τ14 => zob 5 x1 τ14 (zbn (f_X5_highMoved x1 a2 x7 τ14) fun x15 τ16 => zob 5 x1 τ16 (zbn (f_X5_highMoved x1 a3 x9 τ16) fun x17 τ18 => if (min x15 x17) < (max x11 x13) then f_X1_judge_100  a0 a1 x3 1 τ18 else (f_X1_judge_100  a0 a1 x3 0 τ18)))))))))))

noncomputable def f_X1_makeProbe_140 (r106 : Int → Int → Int → Int → Int → Int → Int → zS → zFn) (a0 a1 a2 a5 a6 a7 a8 : Int) (σ : zS) : zFn := r106 a0 a1 a2 a5 a6 a7 (w32 (a8 + 1)) σ

noncomputable def f_X1_makeProbe_106  : Nat → Int → Int → Int → Int → Int → Int → Int → zS → zFn
  | 0, _, _, _, _, _, _, _, _ => none
  | n + 1, a0, a1, a2, a5, a6, a7, a8, σ => if a8 < a6 then zob 5 a5 σ (zbn (f_X5_get a5 a8 3 σ) fun x1 τ2 => if x1 = a2 then zob 1 a0 τ2 (zbn (f_X1_judge a0 a1 a8 a6 τ2) fun x3 τ4 => if x3 = 0 then f_X1_makeProbe_140 (f_X1_makeProbe_106  n) a0 a1 a2 a5 a6 a7 a8 τ4 else (f_X1_makeProbe_140 (f_X1_makeProbe_106  n) a0 a1 a2 a5 a6 (w32 (a7 + 1)) a8 τ4)) else (f_X1_makeProbe_140 (f_X1_makeProbe_106  n) a0 a1 a2 a5 a6 a7 a8 τ2)) else (some (.inl a7, σ))

noncomputable def f_X1_makeProbe  (a0 a1 a2 a3 a4 : Int) (σ : zS) : zFn := zob 1 a0 σ (zbn (f_X1_listOf a0 a1 σ) fun x1 τ2 => zob 5 x1 τ2 (zbn (f_X5_rowOf x1 a1 a2 τ2) fun x3 τ4 => zob 5 x1 τ4 (zbn (f_X5_removeRow x1 x3 τ4) fun _ τ6 => zob 5 x1 τ6 (zbn (f_X5_addRow x1 τ6) fun x7 τ8 => zob 5 x1 τ8 (zbn (f_X5_put x1 x7 0 a1 τ8) fun _ τ10 => zob 5 x1 τ10 (zbn (f_X5_put x1 x7 1 a1 τ10) fun _ τ12 => zob 5 x1 τ12 (zbn (f_X5_put x1 x7 2 0 τ12) fun _ τ14 => zob 5 x1 τ14 (zbn (f_X5_put x1 x7 3 a2 τ14) fun _ τ16 => zgf 1 8 a0 τ16 fun x17 => zob 5 x1 τ16 (zbn (f_X5_put x1 x7 4 x17 τ16) fun _ τ19 => zob 5 x1 τ19 (zbn (f_X5_put x1 x7 5 a3 τ19) fun _ τ21 => zob 5 x1 τ21 (zbn (f_X5_put x1 x7 6 a4 τ21) fun _ τ23 => zob 1 a0 τ23 (zbn (f_X1_tally a0 a1 0 τ23) fun _ τ25 => f_X1_makeProbe_106  zFU a0 a1 a2 x1 x7 0 0 τ25))))))))))))

noncomputable def f_X5_addCopy_8  : Nat → Int → Int → Int → Int → Int → zS → zFn
  | 0, _, _, _, _, _, _ => none
  | n + 1, a0, a1, a2, a3, a4, σ => if a4 < 8 then zob 5 a1 σ (zbn (f_X5_get a1 a2 a4 σ) fun x1 τ2 => zob 5 a0 τ2 (zbn (f_X5_put a0 a3 a4 x1 τ2) fun _ τ4 => f_X5_addCopy_8  n a0 a1 a2 a3 (w32 (a4 + 1)) τ4)) else (some (.inl a3, σ))

noncomputable def f_X5_addCopy  (a0 a1 a2 : Int) (σ : zS) : zFn := zob 5 a0 σ (zbn (f_X5_addRow a0 σ) fun x1 τ2 => f_X5_addCopy_8  zFU a0 a1 a2 x1 0 τ2)

noncomputable def f_X1_sendReport_122 (r3 : Int → Int → Int → Int → Int → zS → zFn) (a0 a1 a2 a3 a4 : Int) (σ : zS) : zFn := r3 a0 a1 a2 a3 (w32 (a4 + 1)) σ

noncomputable def f_X1_sendReport_42 (r3 : Int → Int → Int → Int → Int → zS → zFn) (a0 a1 a2 a3 a4 s0 : Int) (σ : zS) : zFn := zob 1 a0 σ (zbn (f_X1_isLinked a0 a1 a4 σ) fun x1 τ2 => if x1 = 0 then f_X1_sendReport_122 r3 a0 a1 a2 a3 a4 τ2 else if s0 = 0 then zgr 1 6 a0 τ2 fun x3 => zob 5 x3 τ2 (zbn (f_X5_isFull x3 τ2) fun x4 τ5 => if x4 = 0 then zgr 1 6 a0 τ5 fun x6 => zob 5 x6 τ5 (zbn (f_X5_addCopy x6 a2 a3 τ5) fun x7 τ8 => zgr 1 6 a0 τ8 fun x9 => zob 5 x9 τ8 (zbn (f_X5_put x9 x7 1 a1 τ8) fun _ τ11 => zgr 1 6 a0 τ11 fun x12 => zob 5 a2 τ11 (zbn (f_X5_get a2 a3 2 τ11) fun x13 τ14 => zob 5 x12 τ14 (zbn (f_X5_put x12 x7 2 (w32 (x13 + 1)) τ14) fun _ τ16 => zgr 1 6 a0 τ16 fun x17 => zob 5 x17 τ16 (zbn (f_X5_put x17 x7 7 a4 τ16) fun _ τ19 => f_X1_sendReport_122 r3 a0 a1 a2 a3 a4 τ19))))) else (f_X1_sendReport_122 r3 a0 a1 a2 a3 a4 τ5)) else (f_X1_sendReport_122 r3 a0 a1 a2 a3 a4 τ2))

noncomputable def f_X1_sendReport_37 (r3 : Int → Int → Int → Int → Int → zS → zFn) (a0 a1 a2 a3 a4 : Int) (σ : zS) : zFn := f_X1_sendReport_42 r3 a0 a1 a2 a3 a4 1 σ

noncomputable def f_X1_sendReport_3  : Nat → Int → Int → Int → Int → Int → zS → zFn
  | 0, _, _, _, _, _, _ => none
  | n + 1, a0, a1, a2, a3, a4, σ => zgr 1 1 a0 σ fun x1 => zgf 3 1 x1 σ fun x2 => if a4 < x2 then zob 5 a2 σ (zbn (f_X5_get a2 a3 0 σ) fun x3 τ4 => if a4 = x3 then f_X1_sendReport_37 (f_X1_sendReport_3  n) a0 a1 a2 a3 a4 τ4 else (zob 5 a2 τ4 (zbn (f_X5_get a2 a3 1 τ4) fun x5 τ6 => if a4 = x5 then f_X1_sendReport_37 (f_X1_sendReport_3  n) a0 a1 a2 a3 a4 τ6 else (f_X1_sendReport_42 (f_X1_sendReport_3  n) a0 a1 a2 a3 a4 0 τ6)))) else (some (.inl 0, σ))

noncomputable def f_X1_sendReport  (a0 a1 a2 a3 : Int) (σ : zS) : zFn := f_X1_sendReport_3  zFU a0 a1 a2 a3 0 σ

noncomputable def f_X1_sendReports_52  (a0 a4 : Int) (σ : zS) : zFn := zgr 1 6 a0 σ fun x1 => zgf 5 1 x1 σ fun x2 => some (.inl (w32 (x2 - a4)), σ)

noncomputable def f_X1_sendReports_46 (r18 : Int → Int → Int → Int → Int → Int → zS → zFn) (a0 a1 a2 a3 a4 a5 : Int) (σ : zS) : zFn := r18 a0 a1 a2 a3 a4 (w32 (a5 + 1)) σ

noncomputable def f_X1_sendReports_18  : Nat → Int → Int → Int → Int → Int → Int → zS → zFn
  | 0, _, _, _, _, _, _, _ => none
  | n + 1, a0, a1, a2, a3, a4, a5, σ => zgf 5 1 a3 σ fun x1 => if a5 < x1 then zob 5 a3 σ (zbn (f_X5_get a3 a5 2 σ) fun x2 τ3 => if x2 < a2 then zob 1 a0 τ3 (zbn (f_X1_sendReport a0 a1 a3 a5 τ3) fun _ τ5 => f_X1_sendReports_46 (f_X1_sendReports_18  n) a0 a1 a2 a3 a4 a5 τ5) else (f_X1_sendReports_46 (f_X1_sendReports_18  n) a0 a1 a2 a3 a4 a5 τ3)) else (f_X1_sendReports_52  a0 a4 σ)

noncomputable def f_X1_sendReports  (a0 a1 a2 : Int) (σ : zS) : zFn := zob 1 a0 σ (zbn (f_X1_listOf a0 a1 σ) fun x1 τ2 => zgr 1 6 a0 τ2 fun x3 => zgf 5 1 x3 τ2 fun x4 => f_X1_sendReports_18  zFU a0 a1 a2 x1 x4 0 τ2)

noncomputable def f_X1_reasonToRefuse_125  (a5 s0 : Int) (σ : zS) : zFn := if 0 < a5 then some (.inl 3, σ) else if a5 = 0 then if s0 = 0 then some (.inl 0, σ) else (some (.inl 3, σ)) else (some (.inl 0, σ))

noncomputable def f_X1_reasonToRefuse  (a0 a1 : Int) (σ : zS) : zFn := zgr 1 6 a0 σ fun x1 => zob 5 x1 σ (zbn (f_X5_get x1 a1 7 σ) fun x2 τ3 => zgr 1 6 a0 τ3 fun x4 => zob 5 x4 τ3 (zbn (f_X5_get x4 a1 1 τ3) fun x5 τ6 => zob 1 a0 τ6 (zbn (f_X1_isLinked a0 x2 x5 τ6) fun x7 τ8 => if x7 = 0 then some (.inl 1, τ8) else (zgr 1 6 a0 τ8 fun x9 => zob 1 a0 τ8 (zbn (f_X1_isTooOld a0 x9 a1 τ8) fun x10 τ11 => if x10 = 0 then zob 1 a0 τ11 (zbn (f_X1_listOf a0 x2 τ11) fun x12 τ13 => zgr 1 6 a0 τ13 fun x14 => zob 5 x14 τ13 (zbn (f_X5_get x14 a1 0 τ13) fun x15 τ16 => zgr 1 6 a0 τ16 fun x17 => zob 5 x17 τ16 (zbn (f_X5_get x17 a1 3 τ16) fun x18 τ19 => zob 5 x12 τ19 (zbn (f_X5_rowOf x12 x15 x18 τ19) fun x20 τ21 => if x20 = (-1) then some (.inl 0, τ21) else (zob 5 x12 τ21 (zbn (f_X5_get x12 x20 4 τ21) fun x22 τ23 => zgr 1 6 a0 τ23 fun x24 => zob 5 x24 τ23 (zbn (f_X5_get x24 a1 4 τ23) fun x25 τ26 => zob 5 x12 τ26 (zbn (f_X5_get x12 x20 2 τ26) fun x27 τ28 => zgr 1 6 a0 τ28 fun x29 => zob 5 x29 τ28 (zbn (f_X5_get x29 a1 2 τ28) fun x30 τ31 => if x30 < x27 then f_X1_reasonToRefuse_125  (w32 (x22 - x25)) 0 τ31 else (f_X1_reasonToRefuse_125  (w32 (x22 - x25)) 1 τ31)))))))))) else (some (.inl 2, τ11)))))))

noncomputable def f_X1_receive  (a0 a1 : Int) (σ : zS) : zFn := zgr 1 6 a0 σ fun x1 => zob 5 x1 σ (zbn (f_X5_get x1 a1 7 σ) fun x2 τ3 => zob 1 a0 τ3 (zbn (f_X1_reasonToRefuse a0 a1 τ3) fun x4 τ5 => if x4 = 0 then zob 1 a0 τ5 (zbn (f_X1_tally a0 x2 1 τ5) fun _ τ7 => zgr 1 6 a0 τ7 fun x8 => zob 5 x8 τ7 (zbn (f_X5_get x8 a1 3 τ7) fun x9 τ10 => zob 1 a0 τ10 (zbn (f_X1_listOf a0 x2 τ10) fun x11 τ12 => zgr 1 6 a0 τ12 fun x13 => zob 5 x13 τ12 (zbn (f_X5_get x13 a1 0 τ12) fun x14 τ15 => zob 5 x11 τ15 (zbn (f_X5_rowOf x11 x14 x9 τ15) fun x16 τ17 => zob 5 x11 τ17 (zbn (f_X5_removeRow x11 x16 τ17) fun _ τ19 => zgr 1 6 a0 τ19 fun x20 => zob 5 x11 τ19 (zbn (f_X5_addCopy x11 x20 a1 τ19) fun x21 τ22 => zob 5 x11 τ22 (zbn (f_X5_rowOf x11 x2 x9 τ22) fun x23 τ24 => if x23 = (-1) then some (.inl 1, τ24) else (zob 1 a0 τ24 (zbn (f_X1_judge a0 x2 x21 x23 τ24) fun x25 τ26 => some (.inl 1, τ26))))))))))) else (zob 1 a0 τ5 (zbn (f_X1_tally a0 x2 2 τ5) fun _ τ28 => some (.inl 0, τ28)))))

noncomputable def f_X5_removeFirst  (a0 a1 : Int) (σ : zS) : zFn := zgf 5 1 a0 σ fun x1 => zob 5 a0 σ (zbn (f_X5_closeGap a0 0 (max 0 (min a1 x1)) σ) fun _ τ3 => some (.inl 0, τ3))

noncomputable def f_X1_deliverFirst_41  (a0 a2 a3 : Int) (σ : zS) : zFn := zgr 1 6 a0 σ fun x1 => zob 5 x1 σ (zbn (f_X5_removeFirst x1 a2 σ) fun _ τ3 => some (.inl a3, τ3))

noncomputable def f_X1_deliverFirst_35 (r17 : Int → Int → Int → Int → zS → zFn) (a0 a2 a3 a4 : Int) (σ : zS) : zFn := r17 a0 a2 a3 (w32 (a4 + 1)) σ

noncomputable def f_X1_deliverFirst_17  : Nat → Int → Int → Int → Int → zS → zFn
  | 0, _, _, _, _, _ => none
  | n + 1, a0, a2, a3, a4, σ => if a4 < a2 then zob 1 a0 σ (zbn (f_X1_receive a0 a4 σ) fun x1 τ2 => if x1 = 0 then f_X1_deliverFirst_35 (f_X1_deliverFirst_17  n) a0 a2 a3 a4 τ2 else (f_X1_deliverFirst_35 (f_X1_deliverFirst_17  n) a0 a2 (w32 (a3 + 1)) a4 τ2)) else (f_X1_deliverFirst_41  a0 a2 a3 σ)

noncomputable def f_X1_deliverFirst  (a0 a1 : Int) (σ : zS) : zFn := zgr 1 6 a0 σ fun x1 => zgf 5 1 x1 σ fun x2 => f_X1_deliverFirst_17  zFU a0 (min a1 x2) 0 0 σ

noncomputable def f_X1_makeRounds_42 (r4 : Int → Int → Int → Int → zS → zFn) (a0 a1 a2 a3 : Int) (σ : zS) : zFn := zgr 1 6 a0 σ fun x1 => zgf 5 1 x1 σ fun x2 => zob 1 a0 σ (zbn (f_X1_deliverFirst a0 x2 σ) fun x3 τ4 => r4 a0 a1 (w32 (a2 + x3)) (w32 (a3 + 1)) τ4)

noncomputable def f_X1_makeRounds_12 (r4 : Int → Int → Int → Int → zS → zFn) : Nat → Int → Int → Int → Int → Int → zS → zFn
  | 0, _, _, _, _, _, _ => none
  | n + 1, a0, a1, a2, a3, a4, σ => zgr 1 1 a0 σ fun x1 => zgf 3 1 x1 σ fun x2 => if a4 < x2 then zob 1 a0 σ (zbn (f_X1_rule a0 4 σ) fun x3 τ4 => zob 1 a0 τ4 (zbn (f_X1_sendReports a0 a4 x3 τ4) fun x5 τ6 => f_X1_makeRounds_12 r4 n a0 a1 a2 a3 (w32 (a4 + 1)) τ6)) else (f_X1_makeRounds_42 r4 a0 a1 a2 a3 σ)

noncomputable def f_X1_makeRounds_4  : Nat → Int → Int → Int → Int → zS → zFn
  | 0, _, _, _, _, _ => none
  | n + 1, a0, a1, a2, a3, σ => if a3 < a1 then f_X1_makeRounds_12 (f_X1_makeRounds_4  n) zFU a0 a1 a2 a3 0 σ else (some (.inl a2, σ))

noncomputable def f_X1_makeRounds  (a0 a1 : Int) (σ : zS) : zFn := f_X1_makeRounds_4  zFU a0 a1 0 0 σ

noncomputable def f_X1_letPass_73 (r14 : Int → Int → Int → zS → zFn) (a0 a2 a3 : Int) (σ : zS) : zFn := r14 a0 a2 (w32 (a3 + 1)) σ

noncomputable def f_X1_letPass_67 (r14 : Int → Int → Int → zS → zFn) (r41 : Int → Int → Int → Int → Int → zS → zFn) (a0 a2 a3 a4 a5 : Int) (σ : zS) : zFn := r41 a0 a2 a3 a4 (w32 (a5 + (-1))) σ

noncomputable def f_X1_letPass_41 (r14 : Int → Int → Int → zS → zFn) : Nat → Int → Int → Int → Int → Int → zS → zFn
  | 0, _, _, _, _, _, _ => none
  | n + 1, a0, a2, a3, a4, a5, σ => if a5 < 0 then f_X1_letPass_73 r14 a0 a2 a3 σ else (zob 1 a0 σ (zbn (f_X1_isTooOld a0 a4 a5 σ) fun x1 τ2 => if x1 = 0 then f_X1_letPass_67 r14 (f_X1_letPass_41 r14 n) a0 a2 a3 a4 a5 τ2 else (zob 5 a4 τ2 (zbn (f_X5_removeRow a4 a5 τ2) fun _ τ4 => f_X1_letPass_67 r14 (f_X1_letPass_41 r14 n) a0 (w32 (a2 + 1)) a3 a4 a5 τ4))))

noncomputable def f_X1_letPass_14  : Nat → Int → Int → Int → zS → zFn
  | 0, _, _, _, _ => none
  | n + 1, a0, a2, a3, σ => zgr 1 1 a0 σ fun x1 => zgf 3 1 x1 σ fun x2 => if a3 < x2 then zob 1 a0 σ (zbn (f_X1_listOf a0 a3 σ) fun x3 τ4 => zgf 5 1 x3 τ4 fun x5 => f_X1_letPass_41 (f_X1_letPass_14  n) zFU a0 a2 a3 x3 (w32 (x5 - 1)) τ4) else (some (.inl a2, σ))

noncomputable def f_X1_letPass  (a0 a1 : Int) (σ : zS) : zFn := zgf 1 8 a0 σ fun x1 => zpf 1 8 a0 (w32 (x1 + a1)) σ fun τ2 => f_X1_letPass_14  zFU a0 0 0 τ2

noncomputable def f_X2_init  (a0 : Int) (σ : zS) : zFn := if 0 ≤ a0 then zna 7 6 6 σ fun x1 τ2 => zpr 2 0 a0 x1 τ2 fun τ3 => some (.inl 0, τ3) else none

noncomputable def f_X2_dropOldest_47  (a0 : Int) (σ : zS) : zFn := zgf 2 1 a0 σ fun x1 => zpf 2 1 a0 (w32 (x1 - 1)) σ fun τ2 => some (.inl 0, τ2)

noncomputable def f_X2_dropOldest_2  : Nat → Int → Int → zS → zFn
  | 0, _, _, _ => none
  | n + 1, a0, a1, σ => zgr 2 0 a0 σ fun x1 => zal x1 σ fun x2 => if a1 < x2 then zgr 2 0 a0 σ fun x3 => zlr 7 x3 (w32 (a1 - 1)) σ fun x4 => zgr 2 0 a0 σ fun x5 => zgr 2 0 a0 σ fun x6 => zlr 7 x6 a1 σ fun x7 => if x7 < 0 ∨ σ.1.1 x7 = some (0, 1) then zsr_ 7 x5 (w32 (a1 - 1)) x7 σ fun τ8 => zgr 2 0 a0 τ8 fun x9 => if x4 < 0 ∨ τ8.1.1 x4 = some (0, 1) then zsr_ 7 x9 a1 x4 τ8 fun τ10 => f_X2_dropOldest_2  n a0 (w32 (a1 + 1)) τ10 else none else none else (f_X2_dropOldest_47  a0 σ)

noncomputable def f_X2_dropOldest  (a0 : Int) (σ : zS) : zFn := f_X2_dropOldest_2  zFU a0 1 σ

noncomputable def f_X2_push_67  (a0 a1 a2 : Int) (σ : zS) : zFn := zob 1 a2 σ (zbn (f_X1_become a2 a1 σ) fun _ τ2 => zgf 2 1 a0 τ2 fun x3 => zpf 2 1 a0 (w32 (x3 + 1)) τ2 fun τ4 => some (.inl 0, τ4))

noncomputable def f_X2_push_16  (a0 a1 : Int) (σ : zS) : zFn := zgf 2 1 a0 σ fun x1 => if x1 < 0 then some (.inl 0, σ) else (zgf 2 1 a0 σ fun x2 => zgr 2 0 a0 σ fun x3 => zal x3 σ fun x4 => if x2 < x4 then zgr 2 0 a0 σ fun x5 => zgf 2 1 a0 σ fun x6 => zlr 7 x5 x6 σ fun x7 => if x7 < 0 then znw σ (0, 1) fun x8 τ9 => if 0 ≤ x8 then zbn (f_X1_init x8 τ9) fun _ τ11 => zgr 2 0 a0 τ11 fun x12 => zgf 2 1 a0 τ11 fun x13 => if x8 < 0 ∨ τ11.1.1 x8 = some (0, 1) then zsr_ 7 x12 x13 x8 τ11 fun τ14 => f_X2_push_67  a0 a1 x8 τ14 else none else none else (f_X2_push_67  a0 a1 x7 σ) else (some (.inl 0, σ)))

noncomputable def f_X2_push  (a0 a1 : Int) (σ : zS) : zFn := zgf 2 1 a0 σ fun x1 => zgr 2 0 a0 σ fun x2 => zal x2 σ fun x3 => if x1 < x3 then f_X2_push_16  a0 a1 σ else (zob 2 a0 σ (zbn (f_X2_dropOldest a0 σ) fun _ τ5 => f_X2_push_16  a0 a1 τ5))

noncomputable def f_X3_find_2  : Nat → Int → Int → Int → zS → zFn
  | 0, _, _, _, _ => none
  | n + 1, a0, a1, a2, σ => zgf 3 1 a0 σ fun x1 => if a2 < x1 then zgr 3 0 a0 σ fun x2 => zal x2 σ fun x3 => if a2 < x3 then zgr 3 0 a0 σ fun x4 => zld 1 x4 a2 σ fun x5 => if x5 = a1 then some (.inl a2, σ) else (f_X3_find_2  n a0 a1 (w32 (a2 + 1)) σ) else (some (.inl (-1), σ)) else (some (.inl (-1), σ))

noncomputable def f_X3_find  (a0 a1 : Int) (σ : zS) : zFn := f_X3_find_2  zFU a0 a1 0 σ

noncomputable def f_X3_add  (a0 a1 : Int) (σ : zS) : zFn := zgf 3 1 a0 σ fun x1 => if x1 < 0 then some (.inl 0, σ) else (zgf 3 1 a0 σ fun x2 => zgr 3 0 a0 σ fun x3 => zal x3 σ fun x4 => if x2 < x4 then zgr 3 0 a0 σ fun x5 => zgf 3 1 a0 σ fun x6 => zsi 1 x5 x6 a1 σ fun τ7 => zgf 3 1 a0 τ7 fun x8 => zpf 3 1 a0 (w32 (x8 + 1)) τ7 fun τ9 => some (.inl 0, τ9) else (some (.inl 0, σ)))

noncomputable def f_X4_init  (a0 a1 a2 : Int) (σ : zS) : zFn := if 0 ≤ a0 then zpf 4 7 a0 (-1) σ fun τ1 => zpr 4 0 a0 a1 τ1 fun τ2 => zpr 4 1 a0 a2 τ2 fun τ3 => some (.inl 0, τ3) else none

noncomputable def f_X4_kindOf_28  (a0 : Int) (σ : zS) : zFn := if a0 = 32 then some (.inl 4, σ) else if a0 = 10 then some (.inl 4, σ) else (some (.inl 3, σ))

noncomputable def f_X4_kindOf_14  (a0 : Int) (σ : zS) : zFn := if a0 < 48 then f_X4_kindOf_28  a0 σ else if 57 < a0 then f_X4_kindOf_28  a0 σ else (some (.inl 2, σ))

noncomputable def f_X4_kindOf  (a0 : Int) (σ : zS) : zFn := if a0 < 97 then f_X4_kindOf_14  a0 σ else if 122 < a0 then f_X4_kindOf_14  a0 σ else (some (.inl 1, σ))

noncomputable def f_X4_next_109  : Nat → Int → zS → zFn
  | 0, _, _ => none
  | n + 1, a0, σ => zgf 4 2 a0 σ fun x1 => if x1 = 3 then some (.inl 0, σ) else (zgf 4 4 a0 σ fun x2 => zgr 4 0 a0 σ fun x3 => zgf 0 1 x3 σ fun x4 => if x2 < x4 then zgr 4 0 a0 σ fun x5 => zgf 4 4 a0 σ fun x6 => zob 0 x5 σ (zbn (f_X0_at x5 x6 σ) fun x7 τ8 => zbn (f_X4_kindOf x7 τ8) fun x9 τ10 => zgf 4 2 a0 τ10 fun x11 => if x9 = x11 then zgf 4 4 a0 τ10 fun x12 => zpf 4 4 a0 (w32 (x12 + 1)) τ10 fun τ13 => f_X4_next_109  n a0 τ13 else (some (.inl 0, τ10))) else (some (.inl 0, σ)))

noncomputable def f_X4_next_53  (a0 : Int) (σ : zS) : zFn := zgf 4 3 a0 σ fun x1 => zpf 4 4 a0 x1 σ fun τ2 => zgf 4 3 a0 τ2 fun x3 => zgr 4 0 a0 τ2 fun x4 => zgf 0 1 x4 τ2 fun x5 => if x3 < x5 then zgr 4 0 a0 τ2 fun x6 => zgf 4 3 a0 τ2 fun x7 => zob 0 x6 τ2 (zbn (f_X0_at x6 x7 τ2) fun x8 τ9 => zbn (f_X4_kindOf x8 τ9) fun x10 τ11 => zpf 4 2 a0 x10 τ11 fun τ12 => zgf 4 3 a0 τ12 fun x13 => zpf 4 4 a0 (w32 (x13 + 1)) τ12 fun τ14 => f_X4_next_109  zFU a0 τ14) else (zpf 4 2 a0 0 τ2 fun τ15 => some (.inl 0, τ15))

noncomputable def f_X4_next_8  : Nat → Int → zS → zFn
  | 0, _, _ => none
  | n + 1, a0, σ => zgf 4 3 a0 σ fun x1 => zgr 4 0 a0 σ fun x2 => zgf 0 1 x2 σ fun x3 => if x1 < x3 then zgr 4 0 a0 σ fun x4 => zgf 4 3 a0 σ fun x5 => zob 0 x4 σ (zbn (f_X0_at x4 x5 σ) fun x6 τ7 => zbn (f_X4_kindOf x6 τ7) fun x8 τ9 => if x8 = 4 then zgf 4 3 a0 τ9 fun x10 => zpf 4 3 a0 (w32 (x10 + 1)) τ9 fun τ11 => f_X4_next_8  n a0 τ11 else (f_X4_next_53  a0 τ9)) else (f_X4_next_53  a0 σ)

noncomputable def f_X4_next  (a0 : Int) (σ : zS) : zFn := zgf 4 4 a0 σ fun x1 => zpf 4 3 a0 x1 σ fun τ2 => f_X4_next_8  zFU a0 τ2

noncomputable def f_X4_isWord_28  : Nat → Int → Int → Int → zS → zFn
  | 0, _, _, _, _ => none
  | n + 1, a0, a1, a2, σ => zslI a1 fun x1 => if a2 < x1 then zgr 4 0 a0 σ fun x2 => zgf 4 3 a0 σ fun x3 => zob 0 x2 σ (zbn (f_X0_at x2 (w32 (x3 + a2)) σ) fun x4 τ5 => zscI a1 a2 fun x6 => if x4 = x6 then f_X4_isWord_28  n a0 a1 (w32 (a2 + 1)) τ5 else (some (.inl 0, τ5))) else (some (.inl 1, σ))

noncomputable def f_X4_isWord  (a0 a1 : Int) (σ : zS) : zFn := zgf 4 2 a0 σ fun x1 => if x1 = 1 then zgf 4 4 a0 σ fun x2 => zgf 4 3 a0 σ fun x3 => zslI a1 fun x4 => if (w32 (x2 - x3)) = x4 then f_X4_isWord_28  zFU a0 a1 0 σ else (some (.inl 0, σ)) else (some (.inl 0, σ))

noncomputable def f_X4_fail  (a0 a1 : Int) (σ : zS) : zFn := zpf 4 6 a0 a1 σ fun τ1 => zgf 4 3 a0 τ1 fun x2 => zpf 4 7 a0 x2 τ1 fun τ3 => some (.inl 0, τ3)

noncomputable def f_X4_readWord  (a0 a1 : Int) (σ : zS) : zFn := zob 4 a0 σ (zbn (f_X4_isWord a0 a1 σ) fun x1 τ2 => if x1 = 0 then zob 4 a0 τ2 (zbn (f_X4_fail a0 1 τ2) fun x5 τ6 => if x5 = 0 ∨ x5 = 1 then some (.inl x5, τ6) else none) else (zob 4 a0 τ2 (zbn (f_X4_next a0 τ2) fun _ τ4 => some (.inl 1, τ4))))

noncomputable def f_X4_readNumber_71  (a0 : Int) (σ : zS) : zFn := zob 4 a0 σ (zbn (f_X4_fail a0 2 σ) fun x1 τ2 => if x1 = 0 ∨ x1 = 1 then some (.inl x1, τ2) else none)

noncomputable def f_X4_readNumber_61  (a0 a1 a2 a3 : Int) (σ : zS) : zFn := if a3 < a1 then f_X4_readNumber_71  a0 σ else if a2 < a3 then f_X4_readNumber_71  a0 σ else (zpf 4 5 a0 a3 σ fun τ1 => zob 4 a0 τ1 (zbn (f_X4_next a0 τ1) fun _ τ3 => some (.inl 1, τ3)))

noncomputable def f_X4_readNumber_22  : Nat → Int → Int → Int → Int → Int → zS → zFn
  | 0, _, _, _, _, _, _ => none
  | n + 1, a0, a1, a2, a3, a4, σ => zgf 4 4 a0 σ fun x1 => if a4 < x1 then zgr 4 0 a0 σ fun x2 => zob 0 x2 σ (zbn (f_X0_at x2 a4 σ) fun x3 τ4 => f_X4_readNumber_22  n a0 a1 a2 (min (w32 ((w32 ((w32 (a3 * 10)) + x3)) - 48)) 1000) (w32 (a4 + 1)) τ4) else (f_X4_readNumber_61  a0 a1 a2 a3 σ)

noncomputable def f_X4_readNumber  (a0 a1 a2 : Int) (σ : zS) : zFn := zgf 4 2 a0 σ fun x1 => if x1 = 2 then zgf 4 3 a0 σ fun x2 => f_X4_readNumber_22  zFU a0 a1 a2 0 x2 σ else (zob 4 a0 σ (zbn (f_X4_fail a0 1 σ) fun x3 τ4 => if x3 = 0 ∨ x3 = 1 then some (.inl x3, τ4) else none))

noncomputable def f_X4_readRule  (a0 a1 a2 : Int) (σ : zS) : zFn := if a2 < 0 then some (.inl 0, σ) else if a2 < 5 then zob 4 a0 σ (zbn (f_X4_readWord a0 a1 σ) fun x1 τ2 => if x1 = 0 then some (.inl 0, τ2) else (zsa 0 a2 fun x3 => zsa 1 a2 fun x4 => zob 4 a0 τ2 (zbn (f_X4_readNumber a0 x3 x4 τ2) fun x5 τ6 => if x5 = 0 then some (.inl 0, τ6) else (zgr 4 1 a0 τ6 fun x7 => zgf 4 5 a0 τ6 fun x8 => zob 1 x7 τ6 (zbn (f_X1_putRule x7 a2 x8 τ6) fun _ τ10 => some (.inl 1, τ10)))))) else (some (.inl 0, σ))

noncomputable def f_X4_readSemicolon_24  (a0 : Int) (σ : zS) : zFn := zob 4 a0 σ (zbn (f_X4_fail a0 1 σ) fun x1 τ2 => if x1 = 0 ∨ x1 = 1 then some (.inl x1, τ2) else none)

noncomputable def f_X4_readSemicolon  (a0 : Int) (σ : zS) : zFn := zgf 4 2 a0 σ fun x1 => if x1 = 3 then zgr 4 0 a0 σ fun x2 => zgf 4 3 a0 σ fun x3 => zob 0 x2 σ (zbn (f_X0_at x2 x3 σ) fun x4 τ5 => if x4 = 59 then zob 4 a0 τ5 (zbn (f_X4_next a0 τ5) fun _ τ7 => some (.inl 1, τ7)) else (f_X4_readSemicolon_24  a0 τ5)) else (f_X4_readSemicolon_24  a0 σ)

noncomputable def f_X4_readRules  (a0 : Int) (σ : zS) : zFn := zob 4 a0 σ (zbn (f_X4_readWord a0 (0 : Nat) σ) fun x1 τ2 => if x1 = 0 then some (.inl 0, τ2) else (zob 4 a0 τ2 (zbn (f_X4_readRule a0 (1 : Nat) 0 τ2) fun x3 τ4 => if x3 = 0 then some (.inl 0, τ4) else (zob 4 a0 τ4 (zbn (f_X4_readRule a0 (2 : Nat) 1 τ4) fun x5 τ6 => if x5 = 0 then some (.inl 0, τ6) else (zob 4 a0 τ6 (zbn (f_X4_readRule a0 (3 : Nat) 2 τ6) fun x7 τ8 => if x7 = 0 then some (.inl 0, τ8) else (zob 4 a0 τ8 (zbn (f_X4_readRule a0 (4 : Nat) 3 τ8) fun x9 τ10 => if x9 = 0 then some (.inl 0, τ10) else (zob 4 a0 τ10 (zbn (f_X4_readRule a0 (5 : Nat) 4 τ10) fun x11 τ12 => if x11 = 0 then some (.inl 0, τ12) else (zob 4 a0 τ12 (zbn (f_X4_readSemicolon a0 τ12) fun x13 τ14 => if x13 = 0 then some (.inl 0, τ14) else (some (.inl 1, τ14)))))))))))))))

noncomputable def f_X4_isName_104  (a0 s0 : Int) (σ : zS) : zFn := zgf 4 2 a0 σ fun x1 => if x1 = 1 then zgf 4 4 a0 σ fun x2 => zgf 4 3 a0 σ fun x3 => if 6 < (w32 (x2 - x3)) then some (.inl 0, σ) else if s0 = 0 then some (.inl 1, σ) else (some (.inl 0, σ)) else (some (.inl 0, σ))

noncomputable def f_X4_isName_99  (a0 : Int) (σ : zS) : zFn := f_X4_isName_104  a0 1 σ

noncomputable def f_X4_isName  (a0 : Int) (σ : zS) : zFn := zob 4 a0 σ (zbn (f_X4_isWord a0 (0 : Nat) σ) fun x1 τ2 => if x1 = 0 then zob 4 a0 τ2 (zbn (f_X4_isWord a0 (1 : Nat) τ2) fun x3 τ4 => if x3 = 0 then zob 4 a0 τ4 (zbn (f_X4_isWord a0 (2 : Nat) τ4) fun x5 τ6 => if x5 = 0 then zob 4 a0 τ6 (zbn (f_X4_isWord a0 (3 : Nat) τ6) fun x7 τ8 => if x7 = 0 then zob 4 a0 τ8 (zbn (f_X4_isWord a0 (4 : Nat) τ8) fun x9 τ10 => if x9 = 0 then zob 4 a0 τ10 (zbn (f_X4_isWord a0 (5 : Nat) τ10) fun x11 τ12 => if x11 = 0 then zob 4 a0 τ12 (zbn (f_X4_isWord a0 (6 : Nat) τ12) fun x13 τ14 => if x13 = 0 then zob 4 a0 τ14 (zbn (f_X4_isWord a0 (7 : Nat) τ14) fun x15 τ16 => if x15 = 0 then zob 4 a0 τ16 (zbn (f_X4_isWord a0 (8 : Nat) τ16) fun x17 τ18 => if x17 = 0 then zob 4 a0 τ18 (zbn (f_X4_isWord a0 (9 : Nat) τ18) fun x19 τ20 => if x19 = 0 then zob 4 a0 τ20 (zbn (f_X4_isWord a0 (10 : Nat) τ20) fun x21 τ22 => if x21 = 0 then f_X4_isName_104  a0 0 τ22 else (f_X4_isName_99  a0 τ22)) else (f_X4_isName_99  a0 τ20)) else (f_X4_isName_99  a0 τ18)) else (f_X4_isName_99  a0 τ16)) else (f_X4_isName_99  a0 τ14)) else (f_X4_isName_99  a0 τ12)) else (f_X4_isName_99  a0 τ10)) else (f_X4_isName_99  a0 τ8)) else (f_X4_isName_99  a0 τ6)) else (f_X4_isName_99  a0 τ4)) else (f_X4_isName_99  a0 τ2))

noncomputable def f_X4_readNewName  (a0 a1 : Int) (σ : zS) : zFn := zgf 3 1 a1 σ fun x1 => if x1 < 6 then zob 4 a0 σ (zbn (f_X4_next a0 σ) fun _ τ3 => zob 4 a0 τ3 (zbn (f_X4_isName a0 τ3) fun x4 τ5 => if x4 = 0 then zob 4 a0 τ5 (zbn (f_X4_fail a0 1 τ5) fun x21 τ22 => if x21 = 0 ∨ x21 = 1 then some (.inl x21, τ22) else none) else (zgr 4 0 a0 τ5 fun x6 => zgf 4 3 a0 τ5 fun x7 => zgf 4 4 a0 τ5 fun x8 => zob 0 x6 τ5 (zbn (f_X0_nameCode x6 x7 x8 τ5) fun x9 τ10 => zob 3 a1 τ10 (zbn (f_X3_find a1 x9 τ10) fun x11 τ12 => if x11 = (-1) then zob 3 a1 τ12 (zbn (f_X3_add a1 x9 τ12) fun _ τ14 => zob 4 a0 τ14 (zbn (f_X4_next a0 τ14) fun _ τ16 => zob 4 a0 τ16 (zbn (f_X4_readSemicolon a0 τ16) fun x17 τ18 => if x17 = 0 ∨ x17 = 1 then some (.inl x17, τ18) else none))) else (zob 4 a0 τ12 (zbn (f_X4_fail a0 3 τ12) fun x19 τ20 => if x19 = 0 ∨ x19 = 1 then some (.inl x19, τ20) else none))))))) else (zob 4 a0 σ (zbn (f_X4_fail a0 4 σ) fun x23 τ24 => if x23 = 0 ∨ x23 = 1 then some (.inl x23, τ24) else none))

noncomputable def f_X4_isNameOf  (a0 a1 : Int) (σ : zS) : zFn := zob 4 a0 σ (zbn (f_X4_isName a0 σ) fun x1 τ2 => if x1 = 0 then zob 4 a0 τ2 (zbn (f_X4_fail a0 1 τ2) fun x14 τ15 => if x14 = 0 ∨ x14 = 1 then some (.inl x14, τ15) else none) else (zgr 4 0 a0 τ2 fun x3 => zgf 4 3 a0 τ2 fun x4 => zgf 4 4 a0 τ2 fun x5 => zob 0 x3 τ2 (zbn (f_X0_nameCode x3 x4 x5 τ2) fun x6 τ7 => zob 3 a1 τ7 (zbn (f_X3_find a1 x6 τ7) fun x8 τ9 => zpf 4 5 a0 x8 τ9 fun τ10 => zgf 4 5 a0 τ10 fun x11 => if x11 = (-1) then zob 4 a0 τ10 (zbn (f_X4_fail a0 3 τ10) fun x12 τ13 => if x12 = 0 then some (.inl 0, τ13) else (some (.inl 1, τ13))) else (some (.inl 1, τ10))))))

noncomputable def f_X4_readLink_67  (a0 : Int) (σ : zS) : zFn := zob 4 a0 σ (zbn (f_X4_fail a0 3 σ) fun x1 τ2 => if x1 = 0 ∨ x1 = 1 then some (.inl x1, τ2) else none)

noncomputable def f_X4_readLink_109  (a0 a1 a2 a3 : Int) (σ : zS) : zFn := zgr 4 1 a0 σ fun x1 => zob 1 x1 σ (zbn (f_X1_putTrust x1 a1 a2 a3 σ) fun _ τ3 => zgr 4 1 a0 τ3 fun x4 => zob 1 x4 τ3 (zbn (f_X1_putTrust x4 a2 a1 a3 τ3) fun _ τ6 => zob 4 a0 τ6 (zbn (f_X4_readSemicolon a0 τ6) fun x7 τ8 => if x7 = 0 ∨ x7 = 1 then some (.inl x7, τ8) else none)))

noncomputable def f_X4_readLink  (a0 : Int) (σ : zS) : zFn := zob 4 a0 σ (zbn (f_X4_next a0 σ) fun _ τ2 => zgr 4 1 a0 τ2 fun x3 => zgr 1 1 x3 τ2 fun x4 => zob 4 a0 τ2 (zbn (f_X4_isNameOf a0 x4 τ2) fun x5 τ6 => if x5 = 0 then some (.inl 0, τ6) else (zgf 4 5 a0 τ6 fun x7 => zob 4 a0 τ6 (zbn (f_X4_next a0 τ6) fun _ τ9 => zgr 4 1 a0 τ9 fun x10 => zgr 1 1 x10 τ9 fun x11 => zob 4 a0 τ9 (zbn (f_X4_isNameOf a0 x11 τ9) fun x12 τ13 => if x12 = 0 then some (.inl 0, τ13) else (zgf 4 5 a0 τ13 fun x14 => if x14 = x7 then f_X4_readLink_67  a0 τ13 else (zgr 4 1 a0 τ13 fun x15 => zob 1 x15 τ13 (zbn (f_X1_isLinked x15 x7 x14 τ13) fun x16 τ17 => if x16 = 0 then zob 4 a0 τ17 (zbn (f_X4_next a0 τ17) fun _ τ19 => zob 4 a0 τ19 (zbn (f_X4_isWord a0 (9 : Nat) τ19) fun x20 τ21 => if x20 = 0 then f_X4_readLink_109  a0 x7 x14 5 τ21 else (zob 4 a0 τ21 (zbn (f_X4_next a0 τ21) fun _ τ23 => zob 4 a0 τ23 (zbn (f_X4_readNumber a0 0 10 τ23) fun x24 τ25 => if x24 = 0 then some (.inl 0, τ25) else (zgf 4 5 a0 τ25 fun x26 => f_X4_readLink_109  a0 x7 x14 x26 τ25)))))) else (f_X4_readLink_67  a0 τ17)))))))))

noncomputable def f_X4_readProbe  (a0 : Int) (σ : zS) : zFn := zob 4 a0 σ (zbn (f_X4_next a0 σ) fun _ τ2 => zgr 4 1 a0 τ2 fun x3 => zgr 1 1 x3 τ2 fun x4 => zob 4 a0 τ2 (zbn (f_X4_isNameOf a0 x4 τ2) fun x5 τ6 => if x5 = 0 then some (.inl 0, τ6) else (zgf 4 5 a0 τ6 fun x7 => zob 4 a0 τ6 (zbn (f_X4_next a0 τ6) fun _ τ9 => zgr 4 1 a0 τ9 fun x10 => zgr 1 2 x10 τ9 fun x11 => zob 4 a0 τ9 (zbn (f_X4_isNameOf a0 x11 τ9) fun x12 τ13 => if x12 = 0 then some (.inl 0, τ13) else (zgf 4 5 a0 τ13 fun x14 => zob 4 a0 τ13 (zbn (f_X4_next a0 τ13) fun _ τ16 => zob 4 a0 τ16 (zbn (f_X4_readNumber a0 0 999 τ16) fun x17 τ18 => if x17 = 0 then some (.inl 0, τ18) else (zgf 4 5 a0 τ18 fun x19 => zob 4 a0 τ18 (zbn (f_X4_readNumber a0 x19 999 τ18) fun x20 τ21 => if x20 = 0 then some (.inl 0, τ21) else (zgr 4 1 a0 τ21 fun x22 => zgf 4 5 a0 τ21 fun x23 => zob 1 x22 τ21 (zbn (f_X1_makeProbe x22 x7 x14 x19 x23 τ21) fun x24 τ25 => zob 4 a0 τ25 (zbn (f_X4_readSemicolon a0 τ25) fun x26 τ27 => if x26 = 0 ∨ x26 = 1 then some (.inl x26, τ27) else none)))))))))))))

noncomputable def f_X4_parse_139 (r33 : Int → Int → Int → zS → zFn) (a0 a1 a2 : Int) (σ : zS) : zFn := r33 a0 a1 (w32 (a2 + 1)) σ

noncomputable def f_X4_parse_33  : Nat → Int → Int → Int → zS → zFn
  | 0, _, _, _, _ => none
  | n + 1, a0, a1, a2, σ => if a2 < 600 then if a1 = 0 then if a1 = 0 ∨ a1 = 1 then some (.inl a1, σ) else none else (zgf 4 2 a0 σ fun x1 => if x1 = 0 then if a1 = 0 ∨ a1 = 1 then some (.inl a1, σ) else none else (zob 4 a0 σ (zbn (f_X4_isWord a0 (6 : Nat) σ) fun x2 τ3 => if x2 = 0 then zob 4 a0 τ3 (zbn (f_X4_isWord a0 (7 : Nat) τ3) fun x4 τ5 => if x4 = 0 then zob 4 a0 τ5 (zbn (f_X4_isWord a0 (8 : Nat) τ5) fun x6 τ7 => if x6 = 0 then zob 4 a0 τ7 (zbn (f_X4_isWord a0 (10 : Nat) τ7) fun x8 τ9 => if x8 = 0 then zob 4 a0 τ9 (zbn (f_X4_fail a0 1 τ9) fun x10 τ11 => f_X4_parse_139 (f_X4_parse_33  n) a0 x10 a2 τ11) else (zob 4 a0 τ9 (zbn (f_X4_readProbe a0 τ9) fun x12 τ13 => f_X4_parse_139 (f_X4_parse_33  n) a0 x12 a2 τ13))) else (zob 4 a0 τ7 (zbn (f_X4_readLink a0 τ7) fun x14 τ15 => f_X4_parse_139 (f_X4_parse_33  n) a0 x14 a2 τ15))) else (zgr 4 1 a0 τ5 fun x16 => zgr 1 2 x16 τ5 fun x17 => zob 4 a0 τ5 (zbn (f_X4_readNewName a0 x17 τ5) fun x18 τ19 => f_X4_parse_139 (f_X4_parse_33  n) a0 x18 a2 τ19))) else (zgr 4 1 a0 τ3 fun x20 => zgr 1 1 x20 τ3 fun x21 => zob 4 a0 τ3 (zbn (f_X4_readNewName a0 x21 τ3) fun x22 τ23 => f_X4_parse_139 (f_X4_parse_33  n) a0 x22 a2 τ23))))) else if a1 = 0 ∨ a1 = 1 then some (.inl a1, σ) else none

noncomputable def f_X4_parse  (a0 : Int) (σ : zS) : zFn := zpf 4 4 a0 0 σ fun τ1 => zpf 4 6 a0 0 τ1 fun τ2 => zpf 4 7 a0 (-1) τ2 fun τ3 => zgr 4 1 a0 τ3 fun x4 => zob 1 x4 τ3 (zbn (f_X1_reset x4 τ3) fun _ τ6 => zob 4 a0 τ6 (zbn (f_X4_next a0 τ6) fun _ τ8 => zob 4 a0 τ8 (zbn (f_X4_readRules a0 τ8) fun x9 τ10 => f_X4_parse_33  zFU a0 x9 0 τ10)))

noncomputable def f_X7_contains  (a0 a1 : Int) (σ : zS) : zFn := if (zand (zshr a0 a1) 1) = 1 then some (.inl 1, σ) else (some (.inl 0, σ))

noncomputable def f_X5_removeAll_46 (r10 : Int → Int → Int → Int → Int → zS → zFn) (a0 a1 a2 a3 a4 : Int) (σ : zS) : zFn := r10 a0 a1 a2 a3 (w32 (a4 + (-1))) σ

noncomputable def f_X5_removeAll_10  : Nat → Int → Int → Int → Int → Int → zS → zFn
  | 0, _, _, _, _, _, _ => none
  | n + 1, a0, a1, a2, a3, a4, σ => if a4 < 0 then zgf 5 1 a0 σ fun x1 => some (.inl (w32 (a3 - x1)), σ) else (zob 5 a0 σ (zbn (f_X5_get a0 a4 3 σ) fun x2 τ3 => if x2 = a1 then zob 5 a0 τ3 (zbn (f_X5_get a0 a4 0 τ3) fun x4 τ5 => zbn (f_X7_contains a2 x4 τ5) fun x6 τ7 => if x6 = 0 then f_X5_removeAll_46 (f_X5_removeAll_10  n) a0 a1 a2 a3 a4 τ7 else (zob 5 a0 τ7 (zbn (f_X5_removeRow a0 a4 τ7) fun _ τ9 => f_X5_removeAll_46 (f_X5_removeAll_10  n) a0 a1 a2 a3 a4 τ9))) else (f_X5_removeAll_46 (f_X5_removeAll_10  n) a0 a1 a2 a3 a4 τ3)))

noncomputable def f_X5_removeAll  (a0 a1 a2 : Int) (σ : zS) : zFn := zgf 5 1 a0 σ fun x1 => f_X5_removeAll_10  zFU a0 a1 a2 x1 (w32 (x1 - 1)) σ

noncomputable def f_X6_init  (a0 : Int) (σ : zS) : zFn := if 0 ≤ a0 then zna 1 6 6 σ fun x1 τ2 => zpr 6 0 a0 x1 τ2 fun τ3 => zna 1 6 6 τ3 fun x4 τ5 => zpr 6 1 a0 x4 τ5 fun τ6 => zna 1 6 6 τ6 fun x7 τ8 => zpr 6 2 a0 x7 τ8 fun τ9 => zna 1 6 6 τ9 fun x10 τ11 => zpr 6 3 a0 x10 τ11 fun τ12 => zna 1 6 6 τ12 fun x13 τ14 => zpr 6 4 a0 x13 τ14 fun τ15 => zna 1 6 6 τ15 fun x16 τ17 => zpr 6 5 a0 x16 τ17 fun τ18 => some (.inl 0, τ18) else none

noncomputable def f_X6_note_78  (a0 a3 a4 a5 a7 a8 s0 : Int) (σ : zS) : zFn := zgr 6 0 a0 σ fun x1 => zsi 1 x1 a4 a3 σ fun τ2 => zgr 6 1 a0 τ2 fun x3 => zob 5 a5 τ2 (zbn (f_X5_get a5 a3 0 τ2) fun x4 τ5 => zsi 1 x3 a4 x4 τ5 fun τ6 => zgr 6 2 a0 τ6 fun x7 => zob 5 a5 τ6 (zbn (f_X5_get a5 a3 2 τ6) fun x8 τ9 => zgr 6 1 a0 τ9 fun x10 => zld 1 x10 a4 τ9 fun x11 => zsi 1 x7 a4 (w32 ((w32 ((w32 ((w32 (10 - a7)) * 100)) + (w32 (x8 * 10)))) + x11)) τ9 fun τ12 => zgr 6 3 a0 τ12 fun x13 => zob 5 a5 τ12 (zbn (f_X5_lowMoved a5 a3 a8 τ12) fun x14 τ15 => zsi 1 x13 a4 x14 τ15 fun τ16 => zgr 6 4 a0 τ16 fun x17 => zob 5 a5 τ16 (zbn (f_X5_highMoved a5 a3 a8 τ16) fun x18 τ19 => zsi 1 x17 a4 x18 τ19 fun τ20 => zgr 6 5 a0 τ20 fun x21 => if s0 = 0 then zsi 1 x21 a4 3 τ20 fun τ22 => some (.inl 0, τ22) else (zsi 1 x21 a4 2 τ20 fun τ23 => some (.inl 0, τ23))))))

noncomputable def f_X6_note_73  (a0 a3 a4 a5 a7 a8 : Int) (σ : zS) : zFn := f_X6_note_78  a0 a3 a4 a5 a7 a8 1 σ

noncomputable def f_X6_note_47  (a0 a1 a2 a3 a4 a5 s0 : Int) (σ : zS) : zFn := zob 1 a1 σ (zbn (f_X1_beliefSpread a1 a2 a3 σ) fun x1 τ2 => if s0 = (-1) then f_X6_note_73  a0 a3 a4 a5 s0 x1 τ2 else (zob 1 a1 τ2 (zbn (f_X1_rule a1 2 τ2) fun x3 τ4 => if s0 < x3 then f_X6_note_73  a0 a3 a4 a5 s0 x1 τ4 else (f_X6_note_78  a0 a3 a4 a5 s0 x1 0 τ4))))

noncomputable def f_X6_note  (a0 a1 a2 a3 a4 : Int) (σ : zS) : zFn := if a4 < 0 then some (.inl 0, σ) else if a4 < 6 then zob 1 a1 σ (zbn (f_X1_listOf a1 a2 σ) fun x1 τ2 => zob 5 x1 τ2 (zbn (f_X5_get x1 a3 1 τ2) fun x3 τ4 => if x3 = a2 then f_X6_note_47  a0 a1 a2 a3 a4 x1 11 τ4 else (zob 1 a1 τ4 (zbn (f_X1_trustIn a1 a2 x3 τ4) fun x5 τ6 => f_X6_note_47  a0 a1 a2 a3 a4 x1 x5 τ6)))) else (some (.inl 0, σ))

noncomputable def f_X6_nextToTake_54 (r6 : Int → Int → Int → Int → zS → zFn) (a0 a1 a2 a3 : Int) (σ : zS) : zFn := r6 a0 a1 a2 (w32 (a3 + 1)) σ

noncomputable def f_X6_nextToTake_45 (r6 : Int → Int → Int → Int → zS → zFn) (a0 a3 : Int) (σ : zS) : zFn := zgr 6 2 a0 σ fun x1 => zld 1 x1 a3 σ fun x2 => f_X6_nextToTake_54 r6 a0 a3 x2 a3 σ

noncomputable def f_X6_nextToTake_6  : Nat → Int → Int → Int → Int → zS → zFn
  | 0, _, _, _, _, _ => none
  | n + 1, a0, a1, a2, a3, σ => zgf 6 6 a0 σ fun x1 => if a3 < x1 then if a3 < 6 then zgr 6 5 a0 σ fun x2 => zld 1 x2 a3 σ fun x3 => if x3 = 3 then if a1 = (-1) then f_X6_nextToTake_45 (f_X6_nextToTake_6  n) a0 a3 σ else (zgr 6 2 a0 σ fun x4 => zld 1 x4 a3 σ fun x5 => if x5 < a2 then f_X6_nextToTake_45 (f_X6_nextToTake_6  n) a0 a3 σ else (f_X6_nextToTake_54 (f_X6_nextToTake_6  n) a0 a1 a2 a3 σ)) else (f_X6_nextToTake_54 (f_X6_nextToTake_6  n) a0 a1 a2 a3 σ) else (some (.inl a1, σ)) else (some (.inl a1, σ))

noncomputable def f_X6_nextToTake  (a0 : Int) (σ : zS) : zFn := f_X6_nextToTake_6  zFU a0 (-1) 0 0 σ

noncomputable def f_X6_take  (a0 a1 : Int) (σ : zS) : zFn := if a1 < 0 then some (.inl 0, σ) else if a1 < 6 then zgf 6 7 a0 σ fun x1 => zgr 6 3 a0 σ fun x2 => zld 1 x2 a1 σ fun x3 => zgf 6 8 a0 σ fun x4 => zgr 6 4 a0 σ fun x5 => zld 1 x5 a1 σ fun x6 => if (min x4 x6) < (max x1 x3) then zgr 6 5 a0 σ fun x11 => zsi 1 x11 a1 1 σ fun τ12 => some (.inl 0, τ12) else (zgr 6 5 a0 σ fun x7 => zsi 1 x7 a1 0 σ fun τ8 => zpf 6 7 a0 (max x1 x3) τ8 fun τ9 => zpf 6 8 a0 (min x4 x6) τ9 fun τ10 => some (.inl 0, τ10)) else (some (.inl 0, σ))

noncomputable def f_X6_form_102  : Nat → Int → Int → zS → zFn
  | 0, _, _, _ => none
  | n + 1, a0, a6, σ => zgf 6 6 a0 σ fun x1 => if a6 < x1 then zob 6 a0 σ (zbn (f_X6_nextToTake a0 σ) fun x2 τ3 => zob 6 a0 τ3 (zbn (f_X6_take a0 x2 τ3) fun _ τ5 => f_X6_form_102  n a0 (w32 (a6 + 1)) τ5)) else (some (.inl 0, σ))

noncomputable def f_X6_form_99  (a0 : Int) (σ : zS) : zFn := f_X6_form_102  zFU a0 0 σ

noncomputable def f_X6_form_93 (r27 : Int → Int → Int → Int → Int → Int → Int → zS → zFn) (a0 a1 a2 a3 a4 a5 a6 : Int) (σ : zS) : zFn := r27 a0 a1 a2 a3 a4 a5 (w32 (a6 + 1)) σ

noncomputable def f_X6_form_27  : Nat → Int → Int → Int → Int → Int → Int → Int → zS → zFn
  | 0, _, _, _, _, _, _, _, _ => none
  | n + 1, a0, a1, a2, a3, a4, a5, a6, σ => zgf 5 1 a5 σ fun x1 => if a6 < x1 then zob 5 a5 σ (zbn (f_X5_get a5 a6 3 σ) fun x2 τ3 => if x2 = a3 then zob 5 a5 τ3 (zbn (f_X5_get a5 a6 1 τ3) fun x4 τ5 => if x4 = a4 then f_X6_form_93 (f_X6_form_27  n) a0 a1 a2 a3 a4 a5 a6 τ5 else (zgf 6 6 a0 τ5 fun x6 => if x6 < 6 then zgf 6 6 a0 τ5 fun x7 => zob 6 a0 τ5 (zbn (f_X6_note a0 a1 a2 a6 x7 τ5) fun _ τ9 => zgf 6 6 a0 τ9 fun x10 => zpf 6 6 a0 (w32 (x10 + 1)) τ9 fun τ11 => f_X6_form_93 (f_X6_form_27  n) a0 a1 a2 a3 a4 a5 a6 τ11) else (f_X6_form_93 (f_X6_form_27  n) a0 a1 a2 a3 a4 a5 a6 τ5))) else (f_X6_form_93 (f_X6_form_27  n) a0 a1 a2 a3 a4 a5 a6 τ3)) else (f_X6_form_99  a0 σ)

noncomputable def f_X6_form  (a0 a1 a2 a3 a4 : Int) (σ : zS) : zFn := zpf 6 6 a0 0 σ fun τ1 => zpf 6 7 a0 0 τ1 fun τ2 => zpf 6 8 a0 999 τ2 fun τ3 => zob 1 a1 τ3 (zbn (f_X1_listOf a1 a2 τ3) fun x4 τ5 => f_X6_form_27  zFU a0 a1 a2 a3 a4 x4 0 τ5)

noncomputable def f_X6_statusOf_2  : Nat → Int → Int → Int → zS → zFn
  | 0, _, _, _, _ => none
  | n + 1, a0, a1, a2, σ => zgf 6 6 a0 σ fun x1 => if a2 < x1 then if a2 < 6 then zgr 6 0 a0 σ fun x2 => zld 1 x2 a2 σ fun x3 => if x3 = a1 then zgr 6 5 a0 σ fun x4 => zld 1 x4 a2 σ fun x5 => some (.inl x5, σ) else (f_X6_statusOf_2  n a0 a1 (w32 (a2 + 1)) σ) else (some (.inl 2, σ)) else (some (.inl 2, σ))

noncomputable def f_X6_statusOf  (a0 a1 : Int) (σ : zS) : zFn := f_X6_statusOf_2  zFU a0 a1 0 σ

noncomputable def f_X6_originsWith_39 (r4 : Int → Int → Int → Int → zS → zFn) (a0 a1 a2 a3 : Int) (σ : zS) : zFn := r4 a0 a1 a2 (w32 (a3 + 1)) σ

noncomputable def f_X6_originsWith_4  : Nat → Int → Int → Int → Int → zS → zFn
  | 0, _, _, _, _, _ => none
  | n + 1, a0, a1, a2, a3, σ => zgf 6 6 a0 σ fun x1 => if a3 < x1 then if a3 < 6 then zgr 6 5 a0 σ fun x2 => zld 1 x2 a3 σ fun x3 => if x3 = a1 then zgr 6 1 a0 σ fun x4 => zld 1 x4 a3 σ fun x5 => f_X6_originsWith_39 (f_X6_originsWith_4  n) a0 a1 (zor a2 (zshl 1 x5)) a3 σ else (f_X6_originsWith_39 (f_X6_originsWith_4  n) a0 a1 a2 a3 σ) else (some (.inl a2, σ)) else (some (.inl a2, σ))

noncomputable def f_X6_originsWith  (a0 a1 : Int) (σ : zS) : zFn := f_X6_originsWith_4  zFU a0 a1 0 0 σ

noncomputable def f_X6_originsAround_59 (r4 : Int → Int → Int → Int → zS → zFn) (a0 a1 a2 a3 : Int) (σ : zS) : zFn := r4 a0 a1 a2 (w32 (a3 + 1)) σ

noncomputable def f_X6_originsAround_4  : Nat → Int → Int → Int → Int → zS → zFn
  | 0, _, _, _, _, _ => none
  | n + 1, a0, a1, a2, a3, σ => zgf 6 6 a0 σ fun x1 => if a3 < x1 then if a3 < 6 then zgr 6 5 a0 σ fun x2 => zld 1 x2 a3 σ fun x3 => if x3 = 2 then f_X6_originsAround_59 (f_X6_originsAround_4  n) a0 a1 a2 a3 σ else (zgr 6 3 a0 σ fun x4 => zld 1 x4 a3 σ fun x5 => if a1 < x5 then f_X6_originsAround_59 (f_X6_originsAround_4  n) a0 a1 a2 a3 σ else (zgr 6 4 a0 σ fun x6 => zld 1 x6 a3 σ fun x7 => if x7 < a1 then f_X6_originsAround_59 (f_X6_originsAround_4  n) a0 a1 a2 a3 σ else (zgr 6 1 a0 σ fun x8 => zld 1 x8 a3 σ fun x9 => f_X6_originsAround_59 (f_X6_originsAround_4  n) a0 a1 (zor a2 (zshl 1 x9)) a3 σ))) else (some (.inl a2, σ)) else (some (.inl a2, σ))

noncomputable def f_X6_originsAround  (a0 a1 : Int) (σ : zS) : zFn := f_X6_originsAround_4  zFU a0 a1 0 0 σ

noncomputable def f_J6_bitCount_0f7a4  (a0 : Int) (σ : zS) : zFn := some (.inl (zand (w32 ((w32 ((zand (w32 ((w32 ((zand (w32 (a0 - (zand (zush a0 1) 1431655765))) 858993459) + (zand (zush (w32 (a0 - (zand (zush a0 1) 1431655765))) 2) 858993459))) + (zush (w32 ((zand (w32 (a0 - (zand (zush a0 1) 1431655765))) 858993459) + (zand (zush (w32 (a0 - (zand (zush a0 1) 1431655765))) 2) 858993459))) 4))) 252645135) + (zush (zand (w32 ((w32 ((zand (w32 (a0 - (zand (zush a0 1) 1431655765))) 858993459) + (zand (zush (w32 (a0 - (zand (zush a0 1) 1431655765))) 2) 858993459))) + (zush (w32 ((zand (w32 (a0 - (zand (zush a0 1) 1431655765))) 858993459) + (zand (zush (w32 (a0 - (zand (zush a0 1) 1431655765))) 2) 858993459))) 4))) 252645135) 8))) + (zush (w32 ((zand (w32 ((w32 ((zand (w32 (a0 - (zand (zush a0 1) 1431655765))) 858993459) + (zand (zush (w32 (a0 - (zand (zush a0 1) 1431655765))) 2) 858993459))) + (zush (w32 ((zand (w32 (a0 - (zand (zush a0 1) 1431655765))) 858993459) + (zand (zush (w32 (a0 - (zand (zush a0 1) 1431655765))) 2) 858993459))) 4))) 252645135) + (zush (zand (w32 ((w32 ((zand (w32 (a0 - (zand (zush a0 1) 1431655765))) 858993459) + (zand (zush (w32 (a0 - (zand (zush a0 1) 1431655765))) 2) 858993459))) + (zush (w32 ((zand (w32 (a0 - (zand (zush a0 1) 1431655765))) 858993459) + (zand (zush (w32 (a0 - (zand (zush a0 1) 1431655765))) 2) 858993459))) 4))) 252645135) 8))) 16))) 63), σ)

noncomputable def f_X6_largestSet_71 (r4 : Int → Int → Int → zS → zFn) (a0 a1 a2 : Int) (σ : zS) : zFn := r4 a0 a1 (w32 (a2 + 1)) σ

noncomputable def f_X6_largestSet_69 (r4 : Int → Int → Int → zS → zFn) (a0 a2 a3 : Int) (σ : zS) : zFn := f_X6_largestSet_71 r4 a0 a3 a2 σ

noncomputable def f_X6_largestSet_42 (r4 : Int → Int → Int → zS → zFn) (a0 a1 a2 s0 : Int) (σ : zS) : zFn := zbn (f_J6_bitCount_0f7a4 s0 σ) fun x1 τ2 => zbn (f_J6_bitCount_0f7a4 a1 τ2) fun x3 τ4 => if 0 < (w32 (x1 - x3)) then f_X6_largestSet_69 r4 a0 a2 s0 τ4 else if (w32 (x1 - x3)) = 0 then if s0 < a1 then f_X6_largestSet_69 r4 a0 a2 s0 τ4 else (f_X6_largestSet_71 r4 a0 a1 a2 τ4) else (f_X6_largestSet_71 r4 a0 a1 a2 τ4)

noncomputable def f_X6_largestSet_4  : Nat → Int → Int → Int → zS → zFn
  | 0, _, _, _, _ => none
  | n + 1, a0, a1, a2, σ => zgf 6 6 a0 σ fun x1 => if a2 < x1 then if a2 < 6 then zgr 6 5 a0 σ fun x2 => zld 1 x2 a2 σ fun x3 => if x3 = 2 then f_X6_largestSet_42 (f_X6_largestSet_4  n) a0 a1 a2 0 σ else (zgr 6 3 a0 σ fun x4 => zld 1 x4 a2 σ fun x5 => zob 6 a0 σ (zbn (f_X6_originsAround a0 x5 σ) fun x6 τ7 => f_X6_largestSet_42 (f_X6_largestSet_4  n) a0 a1 a2 x6 τ7)) else (some (.inl a1, σ)) else (some (.inl a1, σ))

noncomputable def f_X6_largestSet  (a0 : Int) (σ : zS) : zFn := f_X6_largestSet_4  zFU a0 0 0 σ

noncomputable def f_X6_lowOf_42 (r4 : Int → Int → Int → Int → zS → zFn) (a0 a1 a2 a3 : Int) (σ : zS) : zFn := r4 a0 a1 a2 (w32 (a3 + 1)) σ

noncomputable def f_X6_lowOf_4  : Nat → Int → Int → Int → Int → zS → zFn
  | 0, _, _, _, _, _ => none
  | n + 1, a0, a1, a2, a3, σ => zgf 6 6 a0 σ fun x1 => if a3 < x1 then if a3 < 6 then zgr 6 1 a0 σ fun x2 => zld 1 x2 a3 σ fun x3 => zbn (f_X7_contains a1 x3 σ) fun x4 τ5 => if x4 = 0 then f_X6_lowOf_42 (f_X6_lowOf_4  n) a0 a1 a2 a3 τ5 else (zgr 6 3 a0 τ5 fun x6 => zld 1 x6 a3 τ5 fun x7 => f_X6_lowOf_42 (f_X6_lowOf_4  n) a0 a1 (max a2 x7) a3 τ5) else (some (.inl a2, σ)) else (some (.inl a2, σ))

noncomputable def f_X6_lowOf  (a0 a1 : Int) (σ : zS) : zFn := f_X6_lowOf_4  zFU a0 a1 0 0 σ

noncomputable def f_X6_highOf_44 (r6 : Int → Int → Int → Int → zS → zFn) (a0 a1 a2 a3 : Int) (σ : zS) : zFn := r6 a0 a1 a2 (w32 (a3 + 1)) σ

noncomputable def f_X6_highOf_6  : Nat → Int → Int → Int → Int → zS → zFn
  | 0, _, _, _, _, _ => none
  | n + 1, a0, a1, a2, a3, σ => zgf 6 6 a0 σ fun x1 => if a3 < x1 then if a3 < 6 then zgr 6 1 a0 σ fun x2 => zld 1 x2 a3 σ fun x3 => zbn (f_X7_contains a1 x3 σ) fun x4 τ5 => if x4 = 0 then f_X6_highOf_44 (f_X6_highOf_6  n) a0 a1 a2 a3 τ5 else (zgr 6 4 a0 τ5 fun x6 => zld 1 x6 a3 τ5 fun x7 => f_X6_highOf_44 (f_X6_highOf_6  n) a0 a1 (min a2 x7) a3 τ5) else (some (.inl a2, σ)) else (some (.inl a2, σ))

noncomputable def f_X6_highOf  (a0 a1 : Int) (σ : zS) : zFn := f_X6_highOf_6  zFU a0 a1 999 0 σ

noncomputable def f_X7_init  (a0 : Int) (σ : zS) : zFn := if 0 ≤ a0 then znw σ (0, 0) fun x1 τ2 => if 0 ≤ x1 then zbn (f_X0_init x1 600 τ2) fun _ τ4 => zpr 7 0 a0 x1 τ4 fun τ5 => znw τ5 (0, 0) fun x6 τ7 => if 0 ≤ x6 then zbn (f_X0_init x6 1224 τ7) fun _ τ9 => zpr 7 1 a0 x6 τ9 fun τ10 => znw τ10 (0, 6) fun x11 τ12 => if 0 ≤ x11 then zbn (f_X6_init x11 τ12) fun _ τ14 => zpr 7 2 a0 x11 τ14 fun τ15 => znw τ15 (0, 1) fun x16 τ17 => if 0 ≤ x16 then zbn (f_X1_init x16 τ17) fun _ τ19 => zpr 7 3 a0 x16 τ19 fun τ20 => znw τ20 (0, 1) fun x21 τ22 => if 0 ≤ x21 then zbn (f_X1_init x21 τ22) fun _ τ24 => zpr 7 4 a0 x21 τ24 fun τ25 => znw τ25 (0, 4) fun x26 τ27 => zgr 7 0 a0 τ27 fun x28 => zgr 7 4 a0 τ27 fun x29 => if 0 ≤ x26 then zbn (f_X4_init x26 x28 x29 τ27) fun _ τ31 => zpr 7 5 a0 x26 τ31 fun τ32 => znw τ32 (0, 2) fun x33 τ34 => if 0 ≤ x33 then zbn (f_X2_init x33 τ34) fun _ τ36 => zpr 7 6 a0 x33 τ36 fun τ37 => zna 7 2 2 τ37 fun x38 τ39 => zpr 7 7 a0 x38 τ39 fun τ40 => some (.inl 0, τ40) else none else none else none else none else none else none else none else none

noncomputable def f_X7_append  (a0 a1 a2 a3 a4 a5 : Int) (σ : zS) : zFn := zgr 7 0 a0 σ fun x1 => zgf 0 1 x1 σ fun x2 => if 600 < (w32 (x2 + 20)) then none else (zgr 7 0 a0 σ fun x3 => zob 0 x3 σ (zbn (f_X0_addFour x3 a1 σ) fun _ τ5 => zgr 7 0 a0 τ5 fun x6 => zob 0 x6 τ5 (zbn (f_X0_addFour x6 a2 τ5) fun _ τ8 => zgr 7 0 a0 τ8 fun x9 => zob 0 x9 τ8 (zbn (f_X0_addFour x9 a3 τ8) fun _ τ11 => zgr 7 0 a0 τ11 fun x12 => zob 0 x12 τ11 (zbn (f_X0_addFour x12 a4 τ11) fun _ τ14 => zgr 7 0 a0 τ14 fun x15 => zob 0 x15 τ14 (zbn (f_X0_addFour x15 a5 τ14) fun _ τ17 => zgr 7 0 a0 τ17 fun x18 => zgf 0 1 x18 τ17 fun x19 => some (.inl x19, τ17)))))))

noncomputable def f_X7_checkRange  (a0 a1 a2 : Int) (σ : zS) : zFn := if a0 < a1 then none else if a2 < a0 then none else (some (.inl 0, σ))

noncomputable def f_X7_truncate  (a0 a1 : Int) (σ : zS) : zFn := zgr 7 0 a0 σ fun x1 => zgf 0 1 x1 σ fun x2 => zbn (f_X7_checkRange a1 0 x2 σ) fun _ τ4 => zgr 7 0 a0 τ4 fun x5 => zpf 0 1 x5 a1 τ4 fun τ6 => some (.inl 0, τ6)

noncomputable def f_X7_load  (a0 : Int) (σ : zS) : zFn := zgr 7 5 a0 σ fun x1 => zob 4 x1 σ (zbn (f_X4_parse x1 σ) fun x2 τ3 => zgr 7 0 a0 τ3 fun x4 => zpf 0 1 x4 0 τ3 fun τ5 => if x2 = 0 then some (.inl (-4), τ5) else (zgr 7 6 a0 τ5 fun x6 => zgr 7 3 a0 τ5 fun x7 => zob 2 x6 τ5 (zbn (f_X2_push x6 x7 τ5) fun _ τ9 => zgr 7 3 a0 τ9 fun x10 => zgr 7 4 a0 τ9 fun x11 => zob 1 x10 τ9 (zbn (f_X1_become x10 x11 τ9) fun _ τ13 => zgr 7 3 a0 τ13 fun x14 => zgr 1 1 x14 τ13 fun x15 => zgf 3 1 x15 τ13 fun x16 => some (.inl x16, τ13)))))

noncomputable def f_X7_errorCode  (a0 : Int) (σ : zS) : zFn := zgr 7 5 a0 σ fun x1 => zgf 4 6 x1 σ fun x2 => some (.inl x2, σ)

noncomputable def f_X7_errorPosition  (a0 : Int) (σ : zS) : zFn := zgr 7 5 a0 σ fun x1 => zgf 4 7 x1 σ fun x2 => some (.inl x2, σ)

noncomputable def f_X7_property  (a0 a1 : Int) (σ : zS) : zFn := zbn (f_X7_checkRange a1 0 9 σ) fun _ τ2 => ztb a1 0 [zgr 7 3 a0 τ2 fun x6 => zgr 1 1 x6 τ2 fun x7 => zgf 3 1 x7 τ2 fun x8 => some (.inl x8, τ2), zgr 7 3 a0 τ2 fun x9 => zgr 1 2 x9 τ2 fun x10 => zgf 3 1 x10 τ2 fun x11 => some (.inl x11, τ2), zgr 7 3 a0 τ2 fun x12 => zgf 1 8 x12 τ2 fun x13 => some (.inl x13, τ2), zgr 7 3 a0 τ2 fun x14 => zob 1 x14 τ2 (zbn (f_X1_rule x14 (w32 (a1 - 3)) τ2) fun x15 τ16 => some (.inl x15, τ16)), zgr 7 3 a0 τ2 fun x17 => zob 1 x17 τ2 (zbn (f_X1_rule x17 (w32 (a1 - 3)) τ2) fun x18 τ19 => some (.inl x18, τ19)), zgr 7 3 a0 τ2 fun x20 => zob 1 x20 τ2 (zbn (f_X1_rule x20 (w32 (a1 - 3)) τ2) fun x21 τ22 => some (.inl x21, τ22)), zgr 7 3 a0 τ2 fun x23 => zob 1 x23 τ2 (zbn (f_X1_rule x23 (w32 (a1 - 3)) τ2) fun x24 τ25 => some (.inl x24, τ25)), zgr 7 3 a0 τ2 fun x26 => zob 1 x26 τ2 (zbn (f_X1_rule x26 (w32 (a1 - 3)) τ2) fun x27 τ28 => some (.inl x27, τ28)), zgr 7 3 a0 τ2 fun x29 => zgr 1 6 x29 τ2 fun x30 => zgf 5 1 x30 τ2 fun x31 => some (.inl x31, τ2), zgr 7 3 a0 τ2 fun x32 => zob 1 x32 τ2 (zbn (f_X1_linkCount x32 τ2) fun x33 τ34 => some (.inl x33, τ34))] (zgr 7 3 a0 τ2 fun x3 => zob 1 x3 τ2 (zbn (f_X1_rule x3 (w32 (a1 - 3)) τ2) fun x4 τ5 => some (.inl x4, τ5)))

noncomputable def f_X7_checkAgent  (a0 a1 : Int) (σ : zS) : zFn := if a1 < 0 then none else (zgr 7 3 a0 σ fun x1 => zgr 1 1 x1 σ fun x2 => zgf 3 1 x2 σ fun x3 => if a1 < x3 then some (.inl 0, σ) else (none))

noncomputable def f_X7_trust  (a0 a1 a2 : Int) (σ : zS) : zFn := zob 7 a0 σ (zbn (f_X7_checkAgent a0 a1 σ) fun _ τ2 => zob 7 a0 τ2 (zbn (f_X7_checkAgent a0 a2 τ2) fun _ τ4 => zgr 7 3 a0 τ4 fun x5 => zob 1 x5 τ4 (zbn (f_X1_trustIn x5 a1 a2 τ4) fun x6 τ7 => some (.inl x6, τ7))))

noncomputable def f_X7_reports  (a0 a1 : Int) (σ : zS) : zFn := zob 7 a0 σ (zbn (f_X7_checkAgent a0 a1 σ) fun _ τ2 => zgr 7 3 a0 τ2 fun x3 => zob 1 x3 τ2 (zbn (f_X1_listOf x3 a1 τ2) fun x4 τ5 => zgf 5 1 x4 τ5 fun x6 => some (.inl x6, τ5)))

noncomputable def f_X7_checkReport  (a0 a1 a2 : Int) (σ : zS) : zFn := zob 7 a0 σ (zbn (f_X7_checkAgent a0 a1 σ) fun _ τ2 => if a2 < 0 then none else (zgr 7 3 a0 τ2 fun x3 => zob 1 x3 τ2 (zbn (f_X1_listOf x3 a1 τ2) fun x4 τ5 => zgf 5 1 x4 τ5 fun x6 => if a2 < x6 then some (.inl 0, τ5) else (none))))

noncomputable def f_X7_report  (a0 a1 a2 a3 : Int) (σ : zS) : zFn := zob 7 a0 σ (zbn (f_X7_checkReport a0 a1 a2 σ) fun _ τ2 => zbn (f_X7_checkRange a3 0 6 τ2) fun _ τ4 => zgr 7 3 a0 τ4 fun x5 => zob 1 x5 τ4 (zbn (f_X1_listOf x5 a1 τ4) fun x6 τ7 => zob 5 x6 τ7 (zbn (f_X5_get x6 a2 a3 τ7) fun x8 τ9 => some (.inl x8, τ9))))

noncomputable def f_X7_statusIn  (a0 a1 a2 : Int) (σ : zS) : zFn := zgr 7 2 a0 σ fun x1 => zgr 7 3 a0 σ fun x2 => zgr 7 3 a0 σ fun x3 => zob 1 x3 σ (zbn (f_X1_listOf x3 a1 σ) fun x4 τ5 => zob 5 x4 τ5 (zbn (f_X5_get x4 a2 3 τ5) fun x6 τ7 => zob 6 x1 τ7 (zbn (f_X6_form x1 x2 a1 x6 (-1) τ7) fun _ τ9 => zgr 7 2 a0 τ9 fun x10 => zob 6 x10 τ9 (zbn (f_X6_statusOf x10 a2 τ9) fun x11 τ12 => some (.inl x11, τ12)))))

noncomputable def f_X7_status  (a0 a1 a2 : Int) (σ : zS) : zFn := zob 7 a0 σ (zbn (f_X7_checkReport a0 a1 a2 σ) fun _ τ2 => zob 7 a0 τ2 (zbn (f_X7_statusIn a0 a1 a2 τ2) fun x3 τ4 => some (.inl x3, τ4)))

noncomputable def f_X7_moved_52  (a0 a1 a2 a3 a4 : Int) (σ : zS) : zFn := zgr 7 3 a0 σ fun x1 => zob 1 x1 σ (zbn (f_X1_beliefSpread x1 a1 a2 σ) fun x2 τ3 => if a3 = 0 then zob 5 a4 τ3 (zbn (f_X5_lowMoved a4 a2 x2 τ3) fun x6 τ7 => some (.inl x6, τ7)) else (zob 5 a4 τ3 (zbn (f_X5_highMoved a4 a2 x2 τ3) fun x4 τ5 => some (.inl x4, τ5))))

noncomputable def f_X7_moved  (a0 a1 a2 a3 : Int) (σ : zS) : zFn := zob 7 a0 σ (zbn (f_X7_checkReport a0 a1 a2 σ) fun _ τ2 => zbn (f_X7_checkRange a3 0 1 τ2) fun _ τ4 => zgr 7 3 a0 τ4 fun x5 => zob 1 x5 τ4 (zbn (f_X1_listOf x5 a1 τ4) fun x6 τ7 => zob 5 x6 τ7 (zbn (f_X5_get x6 a2 1 τ7) fun x8 τ9 => if x8 = a1 then f_X7_moved_52  a0 a1 a2 a3 x6 τ9 else (zgr 7 3 a0 τ9 fun x10 => zob 1 x10 τ9 (zbn (f_X1_isLinked x10 a1 x8 τ9) fun x11 τ12 => if x11 = 0 then some (.inl (-1), τ12) else (f_X7_moved_52  a0 a1 a2 a3 x6 τ12))))))

noncomputable def f_X7_checkWay  (a0 a1 : Int) (σ : zS) : zFn := if a1 < 0 then none else (zgr 7 3 a0 σ fun x1 => zgr 1 2 x1 σ fun x2 => zgf 3 1 x2 σ fun x3 => if a1 < x3 then some (.inl 0, σ) else (none))

noncomputable def f_X7_own  (a0 a1 a2 : Int) (σ : zS) : zFn := zob 7 a0 σ (zbn (f_X7_checkAgent a0 a1 σ) fun _ τ2 => zob 7 a0 τ2 (zbn (f_X7_checkWay a0 a2 τ2) fun _ τ4 => zgr 7 3 a0 τ4 fun x5 => zob 1 x5 τ4 (zbn (f_X1_listOf x5 a1 τ4) fun x6 τ7 => zob 5 x6 τ7 (zbn (f_X5_rowOf x6 a1 a2 τ7) fun x8 τ9 => some (.inl x8, τ9)))))

noncomputable def f_X7_believed  (a0 a1 a2 a3 a4 : Int) (σ : zS) : zFn := zgr 7 2 a0 σ fun x1 => zob 6 x1 σ (zbn (f_X6_form x1 a1 a2 a3 (-1) σ) fun _ τ3 => if a4 = 0 then zgr 7 2 a0 τ3 fun x6 => zgf 6 7 x6 τ3 fun x7 => some (.inl x7, τ3) else (zgr 7 2 a0 τ3 fun x4 => zgf 6 8 x4 τ3 fun x5 => some (.inl x5, τ3)))

noncomputable def f_X7_belief  (a0 a1 a2 a3 : Int) (σ : zS) : zFn := zob 7 a0 σ (zbn (f_X7_checkAgent a0 a1 σ) fun _ τ2 => zob 7 a0 τ2 (zbn (f_X7_checkWay a0 a2 τ2) fun _ τ4 => zbn (f_X7_checkRange a3 0 1 τ4) fun _ τ6 => zgr 7 3 a0 τ6 fun x7 => zob 7 a0 τ6 (zbn (f_X7_believed a0 x7 a1 a2 a3 τ6) fun x8 τ9 => some (.inl x8, τ9))))

noncomputable def f_X7_originsOf  (a0 a1 a2 a3 : Int) (σ : zS) : zFn := zgr 7 2 a0 σ fun x1 => zgr 7 3 a0 σ fun x2 => zob 6 x1 σ (zbn (f_X6_form x1 x2 a1 a2 (-1) σ) fun _ τ4 => zgr 7 2 a0 τ4 fun x5 => zob 6 x5 τ4 (zbn (f_X6_originsWith x5 a3 τ4) fun x6 τ7 => some (.inl x6, τ7)))

noncomputable def f_X7_sources  (a0 a1 a2 : Int) (σ : zS) : zFn := zob 7 a0 σ (zbn (f_X7_checkAgent a0 a1 σ) fun _ τ2 => zob 7 a0 τ2 (zbn (f_X7_checkWay a0 a2 τ2) fun _ τ4 => zob 7 a0 τ4 (zbn (f_X7_originsOf a0 a1 a2 0 τ4) fun x5 τ6 => some (.inl x5, τ6))))

noncomputable def f_X7_contradicted  (a0 a1 a2 : Int) (σ : zS) : zFn := zob 7 a0 σ (zbn (f_X7_checkAgent a0 a1 σ) fun _ τ2 => zob 7 a0 τ2 (zbn (f_X7_checkWay a0 a2 τ2) fun _ τ4 => zob 7 a0 τ4 (zbn (f_X7_originsOf a0 a1 a2 1 τ4) fun x5 τ6 => some (.inl x5, τ6))))

noncomputable def f_X7_majority  (a0 a1 a2 : Int) (σ : zS) : zFn := zob 7 a0 σ (zbn (f_X7_checkAgent a0 a1 σ) fun _ τ2 => zob 7 a0 τ2 (zbn (f_X7_checkWay a0 a2 τ2) fun _ τ4 => zgr 7 2 a0 τ4 fun x5 => zgr 7 3 a0 τ4 fun x6 => zob 6 x5 τ4 (zbn (f_X6_form x5 x6 a1 a2 (-1) τ4) fun _ τ8 => zgr 7 2 a0 τ8 fun x9 => zob 6 x9 τ8 (zbn (f_X6_largestSet x9 τ8) fun x10 τ11 => some (.inl x10, τ11)))))

noncomputable def f_X7_majorityBound  (a0 a1 a2 a3 : Int) (σ : zS) : zFn := zob 7 a0 σ (zbn (f_X7_checkAgent a0 a1 σ) fun _ τ2 => zob 7 a0 τ2 (zbn (f_X7_checkWay a0 a2 τ2) fun _ τ4 => zbn (f_X7_checkRange a3 0 1 τ4) fun _ τ6 => zgr 7 2 a0 τ6 fun x7 => zgr 7 3 a0 τ6 fun x8 => zob 6 x7 τ6 (zbn (f_X6_form x7 x8 a1 a2 (-1) τ6) fun _ τ10 => zgr 7 2 a0 τ10 fun x11 => zob 6 x11 τ10 (zbn (f_X6_largestSet x11 τ10) fun x12 τ13 => if x12 = 0 then some (.inl (-1), τ13) else if a3 = 0 then zgr 7 2 a0 τ13 fun x17 => zob 6 x17 τ13 (zbn (f_X6_lowOf x17 x12 τ13) fun x18 τ19 => some (.inl x18, τ19)) else (zgr 7 2 a0 τ13 fun x14 => zob 6 x14 τ13 (zbn (f_X6_highOf x14 x12 τ13) fun x15 τ16 => some (.inl x15, τ16)))))))

noncomputable def f_X7_bestWay_100 (r9 : Int → Int → Int → Int → Int → Int → Int → zS → zFn) (a0 a1 a2 a3 a4 a5 a6 : Int) (σ : zS) : zFn := r9 a0 a1 a2 a3 a4 a5 (w32 (a6 + 1)) σ

noncomputable def f_X7_bestWay_92 (r9 : Int → Int → Int → Int → Int → Int → Int → zS → zFn) (a0 a1 a2 a3 a6 a7 : Int) (σ : zS) : zFn := f_X7_bestWay_100 r9 a0 a1 a2 a3 a6 a7 a6 σ

noncomputable def f_X7_bestWay_77 (r9 : Int → Int → Int → Int → Int → Int → Int → zS → zFn) (a0 a1 a2 a3 a4 a5 a6 s0 : Int) (σ : zS) : zFn := if a4 = (-1) then f_X7_bestWay_92 r9 a0 a1 a2 a3 a6 s0 σ else if s0 < a5 then f_X7_bestWay_92 r9 a0 a1 a2 a3 a6 s0 σ else (f_X7_bestWay_100 r9 a0 a1 a2 a3 a4 a5 a6 σ)

noncomputable def f_X7_bestWay_9  : Nat → Int → Int → Int → Int → Int → Int → Int → zS → zFn
  | 0, _, _, _, _, _, _, _, _ => none
  | n + 1, a0, a1, a2, a3, a4, a5, a6, σ => zgr 1 2 a1 σ fun x1 => zgf 3 1 x1 σ fun x2 => if a6 < x2 then zgr 7 2 a0 σ fun x3 => zob 6 x3 σ (zbn (f_X6_form x3 a1 a2 a6 (-1) σ) fun _ τ5 => if a3 = 0 then zgr 7 2 a0 τ5 fun x12 => zgf 6 8 x12 τ5 fun x13 => f_X7_bestWay_77 (f_X7_bestWay_9  n) a0 a1 a2 a3 a4 a5 a6 x13 τ5 else if a3 = 1 then zgr 7 2 a0 τ5 fun x10 => zgf 6 7 x10 τ5 fun x11 => f_X7_bestWay_77 (f_X7_bestWay_9  n) a0 a1 a2 a3 a4 a5 a6 x11 τ5 else (zgr 7 2 a0 τ5 fun x6 => zgf 6 7 x6 τ5 fun x7 => zgr 7 2 a0 τ5 fun x8 => zgf 6 8 x8 τ5 fun x9 => f_X7_bestWay_77 (f_X7_bestWay_9  n) a0 a1 a2 a3 a4 a5 a6 (w32 (x7 + x9)) τ5)) else (some (.inl a4, σ))

noncomputable def f_X7_bestWay  (a0 a1 a2 a3 : Int) (σ : zS) : zFn := f_X7_bestWay_9  zFU a0 a1 a2 a3 (-1) 0 0 σ

noncomputable def f_X7_best  (a0 a1 a2 : Int) (σ : zS) : zFn := zob 7 a0 σ (zbn (f_X7_checkAgent a0 a1 σ) fun _ τ2 => zbn (f_X7_checkRange a2 0 2 τ2) fun _ τ4 => zgr 7 3 a0 τ4 fun x5 => zob 7 a0 τ4 (zbn (f_X7_bestWay a0 x5 a1 a2 τ4) fun x6 τ7 => some (.inl x6, τ7)))

noncomputable def f_X7_rivalsOf_91 (r35 : Int → Int → Int → Int → Int → Int → zS → zFn) (a0 a1 a2 a3 a4 a5 : Int) (σ : zS) : zFn := r35 a0 a1 a2 a3 a4 (w32 (a5 + 1)) σ

noncomputable def f_X7_rivalsOf_35  : Nat → Int → Int → Int → Int → Int → Int → zS → zFn
  | 0, _, _, _, _, _, _, _ => none
  | n + 1, a0, a1, a2, a3, a4, a5, σ => zgr 7 3 a0 σ fun x1 => zgr 1 2 x1 σ fun x2 => zgf 3 1 x2 σ fun x3 => if a5 < x3 then zgr 7 2 a0 σ fun x4 => zgr 7 3 a0 σ fun x5 => zob 6 x4 σ (zbn (f_X6_form x4 x5 a1 a5 (-1) σ) fun _ τ7 => if a5 = a2 then f_X7_rivalsOf_91 (f_X7_rivalsOf_35  n) a0 a1 a2 a3 a4 a5 τ7 else (zgr 7 2 a0 τ7 fun x8 => zgf 6 7 x8 τ7 fun x9 => if x9 < a3 then f_X7_rivalsOf_91 (f_X7_rivalsOf_35  n) a0 a1 a2 a3 (zor a4 (zshl 1 a5)) a5 τ7 else (f_X7_rivalsOf_91 (f_X7_rivalsOf_35  n) a0 a1 a2 a3 a4 a5 τ7))) else (some (.inl a4, σ))

noncomputable def f_X7_rivalsOf  (a0 a1 a2 : Int) (σ : zS) : zFn := if a2 = (-1) then some (.inl 0, σ) else (zgr 7 2 a0 σ fun x1 => zgr 7 3 a0 σ fun x2 => zob 6 x1 σ (zbn (f_X6_form x1 x2 a1 a2 (-1) σ) fun _ τ4 => zgr 7 2 a0 τ4 fun x5 => zgf 6 8 x5 τ4 fun x6 => f_X7_rivalsOf_35  zFU a0 a1 a2 x6 0 0 τ4))

noncomputable def f_X7_rivals  (a0 a1 : Int) (σ : zS) : zFn := zob 7 a0 σ (zbn (f_X7_checkAgent a0 a1 σ) fun _ τ2 => zgr 7 3 a0 τ2 fun x3 => zob 7 a0 τ2 (zbn (f_X7_bestWay a0 x3 a1 0 τ2) fun x4 τ5 => zob 7 a0 τ5 (zbn (f_X7_rivalsOf a0 a1 x4 τ5) fun x6 τ7 => some (.inl x6, τ7))))

noncomputable def f_X7_widthOf  (a0 a1 a2 a3 a4 : Int) (σ : zS) : zFn := zgr 7 2 a0 σ fun x1 => zob 6 x1 σ (zbn (f_X6_form x1 a1 a2 a3 a4 σ) fun _ τ3 => zgr 7 2 a0 τ3 fun x4 => zgf 6 8 x4 τ3 fun x5 => zgr 7 2 a0 τ3 fun x6 => zgf 6 7 x6 τ3 fun x7 => some (.inl (w32 (x5 - x7)), τ3))

noncomputable def f_X7_nextProbe_97 (r38 : Int → Int → Int → Int → Int → Int → Int → zS → zFn) (a0 a1 a2 a3 a4 a5 a6 : Int) (σ : zS) : zFn := r38 a0 a1 a2 a3 a4 a5 (w32 (a6 + 1)) σ

noncomputable def f_X7_nextProbe_82 (r38 : Int → Int → Int → Int → Int → Int → Int → zS → zFn) (a0 a1 a2 a3 a4 a5 a6 a7 : Int) (σ : zS) : zFn := if a5 < a7 then f_X7_nextProbe_97 r38 a0 a1 a2 a3 a6 a7 a6 σ else (f_X7_nextProbe_97 r38 a0 a1 a2 a3 a4 a5 a6 σ)

noncomputable def f_X7_nextProbe_38  : Nat → Int → Int → Int → Int → Int → Int → Int → zS → zFn
  | 0, _, _, _, _, _, _, _, _ => none
  | n + 1, a0, a1, a2, a3, a4, a5, a6, σ => zgr 7 3 a0 σ fun x1 => zgr 1 2 x1 σ fun x2 => zgf 3 1 x2 σ fun x3 => if a6 < x3 then zgr 7 3 a0 σ fun x4 => zob 7 a0 σ (zbn (f_X7_widthOf a0 x4 a1 a6 (-1) σ) fun x5 τ6 => if a6 = a2 then f_X7_nextProbe_82 (f_X7_nextProbe_38  n) a0 a1 a2 a3 a4 a5 a6 x5 τ6 else (zbn (f_X7_contains a3 a6 τ6) fun x7 τ8 => if x7 = 0 then f_X7_nextProbe_97 (f_X7_nextProbe_38  n) a0 a1 a2 a3 a4 a5 a6 τ8 else (f_X7_nextProbe_82 (f_X7_nextProbe_38  n) a0 a1 a2 a3 a4 a5 a6 x5 τ8))) else (some (.inl a4, σ))

noncomputable def f_X7_nextProbe  (a0 a1 : Int) (σ : zS) : zFn := zob 7 a0 σ (zbn (f_X7_checkAgent a0 a1 σ) fun _ τ2 => zgr 7 3 a0 τ2 fun x3 => zob 7 a0 τ2 (zbn (f_X7_bestWay a0 x3 a1 0 τ2) fun x4 τ5 => zob 7 a0 τ5 (zbn (f_X7_rivalsOf a0 a1 x4 τ5) fun x6 τ7 => if x6 = 0 then some (.inl (-1), τ7) else (f_X7_nextProbe_38  zFU a0 a1 x4 x6 (-1) (-1) 0 τ7))))

noncomputable def f_X7_regret  (a0 a1 : Int) (σ : zS) : zFn := zob 7 a0 σ (zbn (f_X7_checkAgent a0 a1 σ) fun _ τ2 => zgr 7 3 a0 τ2 fun x3 => zgr 1 2 x3 τ2 fun x4 => zgf 3 1 x4 τ2 fun x5 => if x5 = 0 then some (.inl (-1), τ2) else (zgr 7 3 a0 τ2 fun x6 => zgr 7 3 a0 τ2 fun x7 => zob 7 a0 τ2 (zbn (f_X7_bestWay a0 x7 a1 0 τ2) fun x8 τ9 => zob 7 a0 τ9 (zbn (f_X7_believed a0 x6 a1 x8 1 τ9) fun x10 τ11 => zgr 7 3 a0 τ11 fun x12 => zgr 7 3 a0 τ11 fun x13 => zob 7 a0 τ11 (zbn (f_X7_bestWay a0 x13 a1 1 τ11) fun x14 τ15 => zob 7 a0 τ15 (zbn (f_X7_believed a0 x12 a1 x14 0 τ15) fun x16 τ17 => some (.inl (w32 (x10 - x16)), τ17)))))))

noncomputable def f_X7_saved_60 (r9 : Int → Int → Int → Int → zS → zFn) (a0 a1 a2 a3 : Int) (σ : zS) : zFn := r9 a0 a1 a2 (w32 (a3 + 1)) σ

noncomputable def f_X7_saved_9  : Nat → Int → Int → Int → Int → zS → zFn
  | 0, _, _, _, _, _ => none
  | n + 1, a0, a1, a2, a3, σ => zgr 7 3 a0 σ fun x1 => zgr 1 2 x1 σ fun x2 => zgf 3 1 x2 σ fun x3 => if a3 < x3 then zgr 7 3 a0 σ fun x4 => zob 1 x4 σ (zbn (f_X1_listOf x4 a1 σ) fun x5 τ6 => zob 5 x5 τ6 (zbn (f_X5_rowOf x5 a1 a3 τ6) fun x7 τ8 => if x7 = (-1) then zgr 7 3 a0 τ8 fun x9 => zob 7 a0 τ8 (zbn (f_X7_widthOf a0 x9 a1 a3 (-1) τ8) fun x10 τ11 => if x10 = 999 then f_X7_saved_60 (f_X7_saved_9  n) a0 a1 a2 a3 τ11 else (f_X7_saved_60 (f_X7_saved_9  n) a0 a1 (w32 (a2 + 1)) a3 τ11)) else (f_X7_saved_60 (f_X7_saved_9  n) a0 a1 a2 a3 τ8))) else (some (.inl a2, σ))

noncomputable def f_X7_saved  (a0 a1 : Int) (σ : zS) : zFn := zob 7 a0 σ (zbn (f_X7_checkAgent a0 a1 σ) fun _ τ2 => f_X7_saved_9  zFU a0 a1 0 0 τ2)

noncomputable def f_X7_agreeing_98 (r15 : Int → Int → Int → Int → Int → zS → zFn) (a0 a1 a2 a3 a4 : Int) (σ : zS) : zFn := r15 a0 a1 a2 a3 (w32 (a4 + 1)) σ

noncomputable def f_X7_agreeing_15  : Nat → Int → Int → Int → Int → Int → zS → zFn
  | 0, _, _, _, _, _, _ => none
  | n + 1, a0, a1, a2, a3, a4, σ => zgr 7 3 a0 σ fun x1 => zgr 1 2 x1 σ fun x2 => zgf 3 1 x2 σ fun x3 => if a4 < x3 then zgr 7 3 a0 σ fun x4 => zob 7 a0 σ (zbn (f_X7_believed a0 x4 a1 a4 0 σ) fun x5 τ6 => zgr 7 3 a0 τ6 fun x7 => zob 7 a0 τ6 (zbn (f_X7_believed a0 x7 a2 a4 0 τ6) fun x8 τ9 => zgr 7 3 a0 τ9 fun x10 => zob 7 a0 τ9 (zbn (f_X7_believed a0 x10 a1 a4 1 τ9) fun x11 τ12 => zgr 7 3 a0 τ12 fun x13 => zob 7 a0 τ12 (zbn (f_X7_believed a0 x13 a2 a4 1 τ12) fun x14 τ15 => if (min x11 x14) < (max x5 x8) then f_X7_agreeing_98 (f_X7_agreeing_15  n) a0 a1 a2 a3 a4 τ15 else (f_X7_agreeing_98 (f_X7_agreeing_15  n) a0 a1 a2 (w32 (a3 + 1)) a4 τ15))))) else (some (.inl a3, σ))

noncomputable def f_X7_agreeing  (a0 a1 a2 : Int) (σ : zS) : zFn := zob 7 a0 σ (zbn (f_X7_checkAgent a0 a1 σ) fun _ τ2 => zob 7 a0 τ2 (zbn (f_X7_checkAgent a0 a2 τ2) fun _ τ4 => f_X7_agreeing_15  zFU a0 a1 a2 0 0 τ4))

noncomputable def f_X7_common_119  (a2 a3 a4 a5 : Int) (σ : zS) : zFn := if a3 = 0 then some (.inl (-1), σ) else if a5 < a4 then some (.inl (-1), σ) else if a2 = 0 then some (.inl a4, σ) else (some (.inl a5, σ))

noncomputable def f_X7_common_113 (r24 : Int → Int → Int → Int → Int → Int → Int → zS → zFn) (a0 a1 a2 a3 a4 a5 a6 : Int) (σ : zS) : zFn := r24 a0 a1 a2 a3 a4 a5 (w32 (a6 + 1)) σ

noncomputable def f_X7_common_24  : Nat → Int → Int → Int → Int → Int → Int → Int → zS → zFn
  | 0, _, _, _, _, _, _, _, _ => none
  | n + 1, a0, a1, a2, a3, a4, a5, a6, σ => zgr 7 3 a0 σ fun x1 => zgr 1 1 x1 σ fun x2 => zgf 3 1 x2 σ fun x3 => if a6 < x3 then zgr 7 3 a0 σ fun x4 => zob 1 x4 σ (zbn (f_X1_listOf x4 a6 σ) fun x5 τ6 => zob 5 x5 τ6 (zbn (f_X5_rowOf x5 a6 a1 τ6) fun x7 τ8 => if x7 = (-1) then f_X7_common_113 (f_X7_common_24  n) a0 a1 a2 a3 a4 a5 a6 τ8 else (zgr 7 3 a0 τ8 fun x9 => zob 1 x9 τ8 (zbn (f_X1_driftOf x9 x5 x7 τ8) fun x10 τ11 => zob 5 x5 τ11 (zbn (f_X5_lowMoved x5 x7 x10 τ11) fun x12 τ13 => zob 5 x5 τ13 (zbn (f_X5_highMoved x5 x7 x10 τ13) fun x14 τ15 => f_X7_common_113 (f_X7_common_24  n) a0 a1 a2 1 (max a4 x12) (min a5 x14) a6 τ15)))))) else (f_X7_common_119  a2 a3 a4 a5 σ)

noncomputable def f_X7_common  (a0 a1 a2 : Int) (σ : zS) : zFn := zob 7 a0 σ (zbn (f_X7_checkWay a0 a1 σ) fun _ τ2 => zbn (f_X7_checkRange a2 0 1 τ2) fun _ τ4 => f_X7_common_24  zFU a0 a1 a2 0 0 999 0 τ4)

noncomputable def f_X7_checkBounds  (a0 a1 : Int) (σ : zS) : zFn := zbn (f_X7_checkRange a0 0 999 σ) fun _ τ2 => zbn (f_X7_checkRange a1 a0 999 τ2) fun _ τ4 => some (.inl 0, τ4)

noncomputable def f_X7_probe  (a0 a1 a2 a3 a4 : Int) (σ : zS) : zFn := zob 7 a0 σ (zbn (f_X7_checkAgent a0 a1 σ) fun _ τ2 => zob 7 a0 τ2 (zbn (f_X7_checkWay a0 a2 τ2) fun _ τ4 => zbn (f_X7_checkBounds a3 a4 τ4) fun _ τ6 => zgr 7 6 a0 τ6 fun x7 => zgr 7 3 a0 τ6 fun x8 => zob 2 x7 τ6 (zbn (f_X2_push x7 x8 τ6) fun _ τ10 => zgr 7 3 a0 τ10 fun x11 => zob 1 x11 τ10 (zbn (f_X1_makeProbe x11 a1 a2 a3 a4 τ10) fun x12 τ13 => some (.inl x12, τ13)))))

noncomputable def f_X7_share  (a0 a1 : Int) (σ : zS) : zFn := zob 7 a0 σ (zbn (f_X7_checkAgent a0 a1 σ) fun _ τ2 => zgr 7 6 a0 τ2 fun x3 => zgr 7 3 a0 τ2 fun x4 => zob 2 x3 τ2 (zbn (f_X2_push x3 x4 τ2) fun _ τ6 => zgr 7 3 a0 τ6 fun x7 => zob 1 x7 τ6 (zbn (f_X1_sendReports x7 a1 1 τ6) fun x8 τ9 => some (.inl x8, τ9))))

noncomputable def f_X7_relay  (a0 a1 : Int) (σ : zS) : zFn := zob 7 a0 σ (zbn (f_X7_checkAgent a0 a1 σ) fun _ τ2 => zgr 7 6 a0 τ2 fun x3 => zgr 7 3 a0 τ2 fun x4 => zob 2 x3 τ2 (zbn (f_X2_push x3 x4 τ2) fun _ τ6 => zgr 7 3 a0 τ6 fun x7 => zgr 7 3 a0 τ6 fun x8 => zob 1 x8 τ6 (zbn (f_X1_rule x8 4 τ6) fun x9 τ10 => zob 1 x7 τ10 (zbn (f_X1_sendReports x7 a1 x9 τ10) fun x11 τ12 => some (.inl x11, τ12)))))

noncomputable def f_X7_deliver  (a0 a1 : Int) (σ : zS) : zFn := zbn (f_X7_checkRange a1 1 100 σ) fun _ τ2 => zgr 7 6 a0 τ2 fun x3 => zgr 7 3 a0 τ2 fun x4 => zob 2 x3 τ2 (zbn (f_X2_push x3 x4 τ2) fun _ τ6 => zgr 7 3 a0 τ6 fun x7 => zob 1 x7 τ6 (zbn (f_X1_deliverFirst x7 a1 τ6) fun x8 τ9 => some (.inl x8, τ9)))

noncomputable def f_X7_exchange  (a0 a1 : Int) (σ : zS) : zFn := zbn (f_X7_checkRange a1 1 6 σ) fun _ τ2 => zgr 7 6 a0 τ2 fun x3 => zgr 7 3 a0 τ2 fun x4 => zob 2 x3 τ2 (zbn (f_X2_push x3 x4 τ2) fun _ τ6 => zgr 7 3 a0 τ6 fun x7 => zob 1 x7 τ6 (zbn (f_X1_makeRounds x7 a1 τ6) fun x8 τ9 => some (.inl x8, τ9)))

noncomputable def f_X7_pass  (a0 a1 : Int) (σ : zS) : zFn := zbn (f_X7_checkRange a1 1 99 σ) fun _ τ2 => zgr 7 6 a0 τ2 fun x3 => zgr 7 3 a0 τ2 fun x4 => zob 2 x3 τ2 (zbn (f_X2_push x3 x4 τ2) fun _ τ6 => zgr 7 3 a0 τ6 fun x7 => zob 1 x7 τ6 (zbn (f_X1_letPass x7 a1 τ6) fun x8 τ9 => some (.inl x8, τ9)))

noncomputable def f_X7_link_63  (a0 a1 a2 a4 s0 : Int) (σ : zS) : zFn := zgr 7 3 a0 σ fun x1 => zob 1 x1 σ (zbn (f_X1_putTrust x1 a1 a2 s0 σ) fun _ τ3 => zgr 7 3 a0 τ3 fun x4 => zob 1 x4 τ3 (zbn (f_X1_putTrust x4 a2 a1 s0 τ3) fun _ τ6 => if a4 = 0 ∨ a4 = 1 then some (.inl a4, τ6) else none))

noncomputable def f_X7_link  (a0 a1 a2 a3 : Int) (σ : zS) : zFn := zob 7 a0 σ (zbn (f_X7_checkAgent a0 a1 σ) fun _ τ2 => zob 7 a0 τ2 (zbn (f_X7_checkAgent a0 a2 τ2) fun _ τ4 => if a1 = a2 then none else (zgr 7 6 a0 τ4 fun x5 => zgr 7 3 a0 τ4 fun x6 => zob 2 x5 τ4 (zbn (f_X2_push x5 x6 τ4) fun _ τ8 => zgr 7 3 a0 τ8 fun x9 => zob 1 x9 τ8 (zbn (f_X1_isLinked x9 a1 a2 τ8) fun x10 τ11 => if x10 = a3 then if x10 = 0 ∨ x10 = 1 then some (.inl x10, τ11) else none else if a3 = 0 then f_X7_link_63  a0 a1 a2 x10 (-1) τ11 else (f_X7_link_63  a0 a1 a2 x10 5 τ11))))))

noncomputable def f_X7_isRuleValue  (a0 a1 : Int) (σ : zS) : zFn := if a0 < 0 then some (.inl 0, σ) else if a0 < 5 then zsa 0 a0 fun x1 => if a1 < x1 then some (.inl 0, σ) else (zsa 1 a0 fun x2 => if x2 < a1 then some (.inl 0, σ) else (some (.inl 1, σ))) else (some (.inl 0, σ))

noncomputable def f_X7_setRule  (a0 a1 a2 : Int) (σ : zS) : zFn := zbn (f_X7_isRuleValue a1 a2 σ) fun x1 τ2 => if x1 = 0 then none else (zgr 7 6 a0 τ2 fun x3 => zgr 7 3 a0 τ2 fun x4 => zob 2 x3 τ2 (zbn (f_X2_push x3 x4 τ2) fun _ τ6 => zgr 7 3 a0 τ6 fun x7 => zob 1 x7 τ6 (zbn (f_X1_rule x7 a1 τ6) fun x8 τ9 => zgr 7 3 a0 τ9 fun x10 => zob 1 x10 τ9 (zbn (f_X1_putRule x10 a1 a2 τ9) fun _ τ12 => some (.inl x8, τ12)))))

noncomputable def f_X7_forget  (a0 a1 a2 : Int) (σ : zS) : zFn := zob 7 a0 σ (zbn (f_X7_checkAgent a0 a1 σ) fun _ τ2 => zob 7 a0 τ2 (zbn (f_X7_checkWay a0 a2 τ2) fun _ τ4 => zgr 7 6 a0 τ4 fun x5 => zgr 7 3 a0 τ4 fun x6 => zob 2 x5 τ4 (zbn (f_X2_push x5 x6 τ4) fun _ τ8 => zgr 7 3 a0 τ8 fun x9 => zob 1 x9 τ8 (zbn (f_X1_listOf x9 a1 τ8) fun x10 τ11 => zob 5 x10 τ11 (zbn (f_X5_removeAll x10 a2 (-1) τ11) fun x12 τ13 => some (.inl x12, τ13))))))

noncomputable def f_X7_cleanse_20  : Nat → Int → Int → Int → Int → zS → zFn
  | 0, _, _, _, _, _ => none
  | n + 1, a0, a1, a2, a3, σ => zgr 7 3 a0 σ fun x1 => zgr 1 2 x1 σ fun x2 => zgf 3 1 x2 σ fun x3 => if a3 < x3 then zgr 7 3 a0 σ fun x4 => zob 1 x4 σ (zbn (f_X1_listOf x4 a1 σ) fun x5 τ6 => zob 7 a0 τ6 (zbn (f_X7_originsOf a0 a1 a3 1 τ6) fun x7 τ8 => zob 5 x5 τ8 (zbn (f_X5_removeAll x5 a3 x7 τ8) fun x9 τ10 => f_X7_cleanse_20  n a0 a1 (w32 (a2 + x9)) (w32 (a3 + 1)) τ10))) else (some (.inl a2, σ))

noncomputable def f_X7_cleanse  (a0 a1 : Int) (σ : zS) : zFn := zob 7 a0 σ (zbn (f_X7_checkAgent a0 a1 σ) fun _ τ2 => zgr 7 6 a0 τ2 fun x3 => zgr 7 3 a0 τ2 fun x4 => zob 2 x3 τ2 (zbn (f_X2_push x3 x4 τ2) fun _ τ6 => f_X7_cleanse_20  zFU a0 a1 0 0 τ6))

noncomputable def f_L_draw (g : zF)  (a0 a1 a2 : Int) (σ : zS) : zFn := zsql g a0 fun x1 => if a1 < x1 then zsq g a0 a1 fun x2 => if a2 = 0 then none else some (.inl (Int.tmod (zand x2 2147483647) a2), σ) else if a2 = 0 then none else some (.inl (Int.tmod (zand 0 2147483647) a2), σ)

noncomputable def f_J0_coder_7d493  (a0 : Int) (σ : zS) : zFn := if (1 : Int) = 0 then none else (zgf 9 1 a0 σ fun x1 => if 0 ≤ x1 ∧ x1 < 128 then some (.inl x1, σ) else none)

noncomputable def f_J0_length_8abf5  (a0 : Int) (σ : zS) : zFn := zgr 9 0 a0 σ fun x1 => zal x1 σ fun x2 => zob 9 a0 σ (zbn (f_J0_coder_7d493 a0 σ) fun x3 τ4 => some (.inl (zshr x2 x3), τ4))

noncomputable def f_J0_isLatin1_aae02  (a0 : Int) (σ : zS) : zFn := if (1 : Int) = 0 then none else (zgf 9 1 a0 σ fun x1 => if x1 = 0 then some (.inl 1, σ) else (none))

noncomputable def f_J1_charAt_3b067  (a0 a1 : Int) (σ : zS) : zFn := zal a0 σ fun x1 => if 0 ≤ a1 ∧ a1 < x1 then zld 2 a0 a1 σ fun x2 => if 0 ≤ (zand x2 255) ∧ (zand x2 255) < 256 then if 0 ≤ (zand x2 255) ∧ (zand x2 255) < 256 then some (.inl (zand x2 255), σ) else none else none else none

noncomputable def f_J0_charAt_5068e  (a0 a1 : Int) (σ : zS) : zFn := zob 9 a0 σ (zbn (f_J0_isLatin1_aae02 a0 σ) fun x1 τ2 => if x1 = 0 then none else (zgr 9 0 a0 τ2 fun x3 => zbn (f_J1_charAt_3b067 x3 a1 τ2) fun x4 τ5 => if 0 ≤ x4 ∧ x4 < 256 then some (.inl x4, τ5) else none))

noncomputable def f_L_four_34 (r4 : Int → Int → Int → Int → zS → zFn) (a0 a1 a3 s0 s1 : Int) (σ : zS) : zFn := r4 a0 a1 (zor s0 s1) (w32 (a3 + 1)) σ

noncomputable def f_L_four_4  : Nat → Int → Int → Int → Int → zS → zFn
  | 0, _, _, _, _, _ => none
  | n + 1, a0, a1, a2, a3, σ => if a3 < 4 then zob 9 a0 σ (zbn (f_J0_length_8abf5 a0 σ) fun x1 τ2 => if (w32 (a1 + a3)) < x1 then zob 9 a0 τ2 (zbn (f_J0_charAt_5068e a0 (w32 (a1 + a3)) τ2) fun x3 τ4 => f_L_four_34 (f_L_four_4  n) a0 a1 a3 (zshl a2 8) x3 τ4) else (f_L_four_34 (f_L_four_4  n) a0 a1 a3 (zshl a2 8) 0 τ2)) else (some (.inl a2, σ))

noncomputable def f_L_four  (a0 a1 : Int) (σ : zS) : zFn := f_L_four_4  zFU a0 a1 0 0 σ

noncomputable def f_L_feed_16 (r4 : Int → Int → Int → Int → zS → zFn) (a0 a1 a3 : Int) (σ : zS) : zFn := zbn (f_L_four a1 a3 σ) fun x1 τ2 => zbn (f_L_four a1 (w32 (a3 + 4)) τ2) fun x3 τ4 => zbn (f_L_four a1 (w32 (a3 + 8)) τ4) fun x5 τ6 => zbn (f_L_four a1 (w32 (a3 + 12)) τ6) fun x7 τ8 => zbn (f_L_four a1 (w32 (a3 + 16)) τ8) fun x9 τ10 => zob 7 a0 τ10 (zbn (f_X7_append a0 x1 x3 x5 x7 x9 τ10) fun x11 τ12 => r4 a0 a1 x11 (w32 (a3 + 20)) τ12)

noncomputable def f_L_feed_63  (a0 a1 a2 : Int) (σ : zS) : zFn := zob 9 a1 σ (zbn (f_J0_length_8abf5 a1 σ) fun x1 τ2 => zob 7 a0 τ2 (zbn (f_X7_truncate a0 (min a2 x1) τ2) fun _ τ4 => some (.inl 0, τ4)))

noncomputable def f_L_feed_4  : Nat → Int → Int → Int → Int → zS → zFn
  | 0, _, _, _, _, _ => none
  | n + 1, a0, a1, a2, a3, σ => zob 9 a1 σ (zbn (f_J0_length_8abf5 a1 σ) fun x1 τ2 => if a3 < x1 then f_L_feed_16 (f_L_feed_4  n) a0 a1 a3 τ2 else if a3 = 0 then f_L_feed_16 (f_L_feed_4  n) a0 a1 a3 τ2 else (f_L_feed_63  a0 a1 a2 τ2))

noncomputable def f_L_feed  (a0 a1 : Int) (σ : zS) : zFn := f_L_feed_4  zFU a0 a1 0 0 σ

noncomputable def f_J8_newLength_cabcc  (a0 a1 a2 : Int) (σ : zS) : zFn := if (0 : Int) < (w32 (a0 + (max a1 a2))) then if 2147483639 < (w32 (a0 + (max a1 a2))) then none else (some (.inl (w32 (a0 + (max a1 a2))), σ)) else (none)

noncomputable def f_J5_newCapacity_0f7a4  (a0 a1 : Int) (σ : zS) : zFn := zgr 8 0 a0 σ fun x1 => zal x1 σ fun x2 => zgf 8 1 a0 σ fun x3 => zgf 8 1 a0 σ fun x4 => zbn (f_J8_newLength_cabcc x2 (w32 ((zshl a1 x3) - x2)) (w32 (x2 + (zshl 2 x4))) σ) fun x5 τ6 => if x5 = 2147483647 then none else (zgf 8 1 a0 τ6 fun x7 => some (.inl (zshr x5 x7), τ6))

noncomputable def f_J7_copyOf_9075b  (a0 a1 : Int) (σ : zS) : zFn := zal a0 σ fun x1 => if a1 = x1 then none else (zna 2 1024 a1 σ fun x2 τ3 => zal a0 τ3 fun x4 => zacB a0 0 x2 0 (min x4 a1) τ3 fun τ5 => some (.inl x2, τ5))

noncomputable def f_J5_ensureCapacityInternal_d00df  (a0 a1 : Int) (σ : zS) : zFn := zgr 8 0 a0 σ fun x1 => zal x1 σ fun x2 => zgf 8 1 a0 σ fun x3 => if 0 < (w32 (a1 - (zshr x2 x3))) then zgr 8 0 a0 σ fun x4 => zob 8 a0 σ (zbn (f_J5_newCapacity_0f7a4 a0 a1 σ) fun x5 τ6 => zgf 8 1 a0 τ6 fun x7 => zbn (f_J7_copyOf_9075b x4 (zshl x5 x7) τ6) fun x8 τ9 => zpr 8 0 a0 x8 τ9 fun τ10 => some (.inl 0, τ10)) else (some (.inl 0, σ))

noncomputable def f_J5_inflateIfNeededFor_a7421  (a0 a1 : Int) (σ : zS) : zFn := if (1 : Int) = 0 then none else (zgf 8 1 a0 σ fun x1 => if 0 ≤ a1 ∧ a1 < 25 then if x1 = 0 then some (.inl 0, σ) else (none) else none)

noncomputable def f_J0_getBytes_840e7  (a0 a1 a2 a3 : Int) (σ : zS) : zFn := if 0 ≤ a0 ∧ a0 < 25 then if (0 : Int) = a3 then if 0 ≤ a0 ∧ a0 < 25 then if 0 ≤ a0 ∧ a0 < 25 then if 0 ≤ a0 ∧ a0 < 25 then zacS a0 0 a1 (zshl a2 a3) (zlen (a0 : Int).toNat) σ fun τ1 => some (.inl 0, τ1) else none else none else none else (none) else none

noncomputable def f_J5_putStringAt_47b60  (a0 a1 a2 : Int) (σ : zS) : zFn := zob 8 a0 σ (zbn (f_J5_inflateIfNeededFor_a7421 a0 a2 σ) fun _ τ2 => zgr 8 0 a0 τ2 fun x3 => zgf 8 1 a0 τ2 fun x4 => if 0 ≤ a2 ∧ a2 < 25 then zbn (f_J0_getBytes_840e7 a2 x3 a1 x4 τ2) fun _ τ6 => some (.inl 0, τ6) else none)

noncomputable def f_J5_append_cf1ce  (a0 a1 : Int) (σ : zS) : zFn := if 0 ≤ a1 ∧ a1 < 25 then zgf 8 3 a0 σ fun x1 => zob 8 a0 σ (zbn (f_J5_ensureCapacityInternal_d00df a0 (w32 (x1 + (zlen (a1 : Int).toNat))) σ) fun _ τ3 => zgf 8 3 a0 τ3 fun x4 => zob 8 a0 τ3 (zbn (f_J5_putStringAt_47b60 a0 x4 a1 τ3) fun _ τ6 => zgf 8 3 a0 τ6 fun x7 => zpf 8 3 a0 (w32 (x7 + (zlen (a1 : Int).toNat))) τ6 fun τ8 => some (.inl a0, τ8))) else none

noncomputable def f_J4_append_15ec4  (a0 a1 : Int) (σ : zS) : zFn := zob 8 a0 σ (zbn (f_J5_append_cf1ce a0 a1 σ) fun x1 τ2 => some (.inl a0, τ2))

noncomputable def f_J4_append_cf1ce  (a0 a1 : Int) (σ : zS) : zFn := zob 8 a0 σ (zbn (f_J4_append_15ec4 a0 a1 σ) fun x1 τ2 => some (.inl x1, τ2))

noncomputable def f_J5_init_a7421  (a0 a1 : Int) (σ : zS) : zFn := if 0 ≤ a0 then if 0 ≤ a1 ∧ a1 < 25 then if (zlen (a1 : Int).toNat) < 2147483631 then if 0 ≤ a1 ∧ a1 < 25 then if 0 ≤ 0 ∧ 0 < 128 then zpf 8 1 a0 0 σ fun τ1 => if (0 : Int) = 0 then zna 2 64 (w32 ((zlen (a1 : Int).toNat) + 16)) τ1 fun x2 τ3 => zpr 8 0 a0 x2 τ3 fun τ4 => zob 8 a0 τ4 (zbn (f_J4_append_cf1ce a0 a1 τ4) fun x5 τ6 => some (.inl 0, τ6)) else (none) else none else none else (none) else none else none

noncomputable def f_J4_init_a7421  (a0 a1 : Int) (σ : zS) : zFn := if 0 ≤ a0 then zbn (f_J5_init_a7421 a0 a1 σ) fun _ τ2 => some (.inl 0, τ2) else none

noncomputable def f_J6_stringSize_0f7a4_16  : Nat → Int → Int → Int → Int → zS → zFn
  | 0, _, _, _, _, _ => none
  | n + 1, a0, a1, a2, a3, σ => if a3 < 10 then if a2 < a0 then some (.inl (w32 (a3 + a1)), σ) else (f_J6_stringSize_0f7a4_16  n a0 a1 (w32 (10 * a2)) (w32 (a3 + 1)) σ) else (some (.inl (w32 (10 + a1)), σ))

noncomputable def f_J6_stringSize_0f7a4  (a0 : Int) (σ : zS) : zFn := if a0 < 0 then none else (f_J6_stringSize_0f7a4_16  zFU (w32 (-a0)) 0 (-10) 1 σ)

noncomputable def f_J5_isLatin1_aae02  (a0 : Int) (σ : zS) : zFn := if (1 : Int) = 0 then none else (zgf 8 1 a0 σ fun x1 => if x1 = 0 then some (.inl 1, σ) else (none))

noncomputable def f_J6_getChars_ba4f3_104  (a5 a6 : Int) (σ : zS) : zFn := if a6 = 0 then some (.inl a5, σ) else (none)

noncomputable def f_J6_getChars_ba4f3_72  (a0 a2 a5 a6 : Int) (σ : zS) : zFn := zsd 3 (w32 (-a0)) fun x1 => zsi 2 a2 (w32 (a5 + (-1))) (w8 x1) σ fun τ2 => if a0 < (-9) then zsd 4 (w32 (-a0)) fun x3 => zsi 2 a2 (w32 ((w32 (a5 + (-1))) + (-1))) (w8 x3) τ2 fun τ4 => f_J6_getChars_ba4f3_104  (w32 ((w32 (a5 + (-1))) + (-1))) a6 τ4 else (f_J6_getChars_ba4f3_104  (w32 (a5 + (-1))) a6 τ2)

noncomputable def f_J6_getChars_ba4f3_22  : Nat → Int → Int → Int → Int → zS → zFn
  | 0, _, _, _, _, _ => none
  | n + 1, a0, a2, a5, a6, σ => if (-100) < a0 then f_J6_getChars_ba4f3_72  a0 a2 a5 a6 σ else if 100 = 0 then none else zsd 3 (w32 ((w32 ((w32 (Int.tdiv a0 100)) * 100)) - a0)) fun x1 => zsi 2 a2 (w32 (a5 + (-1))) (w8 x1) σ fun τ2 => zsd 4 (w32 ((w32 ((w32 (Int.tdiv a0 100)) * 100)) - a0)) fun x3 => zsi 2 a2 (w32 ((w32 (a5 + (-1))) + (-1))) (w8 x3) τ2 fun τ4 => f_J6_getChars_ba4f3_22  n (w32 (Int.tdiv a0 100)) a2 (w32 ((w32 (a5 + (-1))) + (-1))) a6 τ4

noncomputable def f_J6_getChars_ba4f3  (a0 a1 a2 : Int) (σ : zS) : zFn := if a0 < 0 then none else if (0 : Int) = 0 then f_J6_getChars_ba4f3_22  zFU (w32 (-a0)) a2 a1 0 σ else (none)

noncomputable def f_J5_append_c97b9  (a0 a1 : Int) (σ : zS) : zFn := zgf 8 3 a0 σ fun x1 => zbn (f_J6_stringSize_0f7a4 a1 σ) fun x2 τ3 => zob 8 a0 τ3 (zbn (f_J5_ensureCapacityInternal_d00df a0 (w32 (x1 + x2)) τ3) fun _ τ5 => zob 8 a0 τ5 (zbn (f_J5_isLatin1_aae02 a0 τ5) fun x6 τ7 => if x6 = 0 then none else (zgr 8 0 a0 τ7 fun x8 => zbn (f_J6_getChars_ba4f3 a1 (w32 (x1 + x2)) x8 τ7) fun x9 τ10 => zpf 8 3 a0 (w32 (x1 + x2)) τ10 fun τ11 => some (.inl a0, τ11))))

noncomputable def f_J4_append_bf812  (a0 a1 : Int) (σ : zS) : zFn := zob 8 a0 σ (zbn (f_J5_append_c97b9 a0 a1 σ) fun x1 τ2 => some (.inl a0, τ2))

noncomputable def f_J1_canEncode_fc78d  (a0 : Int) (σ : zS) : zFn := if 255 < a0 then some (.inl 0, σ) else (some (.inl 1, σ))

noncomputable def f_J5_append_3fe6f  (a0 a1 : Int) (σ : zS) : zFn := zgf 8 3 a0 σ fun x1 => zob 8 a0 σ (zbn (f_J5_ensureCapacityInternal_d00df a0 (w32 (x1 + 1)) σ) fun _ τ3 => zob 8 a0 τ3 (zbn (f_J5_isLatin1_aae02 a0 τ3) fun x4 τ5 => if x4 = 0 then none else (zbn (f_J1_canEncode_fc78d a1 τ5) fun x6 τ7 => if x6 = 0 then none else (zgr 8 0 a0 τ7 fun x8 => zgf 8 3 a0 τ7 fun x9 => zpf 8 3 a0 (w32 (x9 + 1)) τ7 fun τ10 => zsi 2 x8 x9 (w8 (w8 a1)) τ10 fun τ11 => some (.inl a0, τ11)))))

noncomputable def f_J4_append_cf468  (a0 a1 : Int) (σ : zS) : zFn := zob 8 a0 σ (zbn (f_J5_append_3fe6f a0 a1 σ) fun x1 τ2 => some (.inl a0, τ2))

noncomputable def f_J5_length_8abf5  (a0 : Int) (σ : zS) : zFn := zgf 8 3 a0 σ fun x1 => some (.inl x1, σ)

noncomputable def f_J4_length_8abf5  (a0 : Int) (σ : zS) : zFn := zob 8 a0 σ (zbn (f_J5_length_8abf5 a0 σ) fun x1 τ2 => some (.inl x1, τ2))

noncomputable def f_J5_getValue_6d5f1  (a0 : Int) (σ : zS) : zFn := zgr 8 0 a0 σ fun x1 => some (.inl x1, σ)

noncomputable def f_J7_checkLength_df160  (a0 a1 : Int) (σ : zS) : zFn := if a1 < a0 then none else (some (.inl 0, σ))

noncomputable def f_J7_copyOfRangeByte_39247  (a0 a1 a2 : Int) (σ : zS) : zFn := zbn (f_J7_checkLength_df160 a1 a2 σ) fun _ τ2 => zna 2 1024 (w32 (a2 - a1)) τ2 fun x3 τ4 => zal a0 τ4 fun x5 => zacB a0 a1 x3 0 (min (w32 (x5 - a1)) (w32 (a2 - a1))) τ4 fun τ6 => some (.inl x3, τ6)

noncomputable def f_J7_copyOfRange_39247  (a0 a1 a2 : Int) (σ : zS) : zFn := if a1 = 0 then zal a0 σ fun x1 => if a2 = x1 then zcl 1024 a0 σ fun x2 τ3 => zcb x2 τ3 (some (.inl x2, τ3)) else (zbn (f_J7_copyOfRangeByte_39247 a0 a1 a2 σ) fun x4 τ5 => some (.inl x4, τ5)) else (none)

noncomputable def f_J0_init_db425  (a0 a1 a2 : Int) (σ : zS) : zFn := if 0 ≤ a0 then zob 8 a1 σ (zbn (f_J5_getValue_6d5f1 a1 σ) fun x1 τ2 => zob 8 a1 τ2 (zbn (f_J4_length_8abf5 a1 τ2) fun x3 τ4 => zob 8 a1 τ4 (zbn (f_J5_isLatin1_aae02 a1 τ4) fun x5 τ6 => if x5 = 0 then none else if 0 ≤ 0 ∧ 0 < 128 then zpf 9 1 a0 0 τ6 fun τ7 => zbn (f_J7_copyOfRange_39247 x1 0 x3 τ7) fun x8 τ9 => zpr 9 0 a0 x8 τ9 fun τ10 => some (.inl 0, τ10) else none))) else none

noncomputable def f_J0_init_81219  (a0 a1 : Int) (σ : zS) : zFn := if 0 ≤ a0 then zbn (f_J0_init_db425 a0 a1 (-1) σ) fun _ τ2 => some (.inl 0, τ2) else none

noncomputable def f_J4_toString_0e30d  (a0 : Int) (σ : zS) : zFn := znw σ (0, 9) fun x1 τ2 => if 0 ≤ x1 then zbn (f_J0_init_81219 x1 a0 τ2) fun _ τ4 => some (.inl x1, τ4) else none

noncomputable def f_L_load_431 (g : zF)  (a0 a1 a2 a3 a4 a5 : Int) (σ : zS) : zFn := zob 8 a4 σ (zbn (f_J4_length_8abf5 a4 σ) fun x1 τ2 => if 600 < x1 then some (.inl 1, τ2) else (zob 8 a4 τ2 (zbn (f_J4_toString_0e30d a4 τ2) fun x3 τ4 => zbn (f_L_feed a0 x3 τ4) fun _ τ6 => zob 7 a0 τ6 (zbn (f_X7_load a0 τ6) fun x7 τ8 => if x7 = a2 then zob 7 a0 τ8 (zbn (f_X7_errorCode a0 τ8) fun x9 τ10 => if x9 = 0 then zob 7 a0 τ10 (zbn (f_X7_errorPosition a0 τ10) fun x11 τ12 => if x11 = (-1) then zob 7 a0 τ12 (zbn (f_X7_property a0 0 τ12) fun x13 τ14 => if x13 = a2 then zob 7 a0 τ14 (zbn (f_X7_property a0 1 τ14) fun x15 τ16 => if x15 = a3 then zob 7 a0 τ16 (zbn (f_X7_property a0 2 τ16) fun x17 τ18 => if x17 = 0 then zob 7 a0 τ18 (zbn (f_X7_property a0 3 τ18) fun x19 τ20 => zbn (f_L_draw g a1 2 4 τ20) fun x21 τ22 => if x19 = x21 then zob 7 a0 τ22 (zbn (f_X7_property a0 7 τ22) fun x23 τ24 => zbn (f_L_draw g a1 6 3 τ24) fun x25 τ26 => if x23 = (w32 (1 + x25)) then zob 7 a0 τ26 (zbn (f_X7_property a0 8 τ26) fun x27 τ28 => if x27 = 0 then zob 7 a0 τ28 (zbn (f_X7_property a0 9 τ28) fun x29 τ30 => if x29 = a5 then some (.inl 1, τ30) else (some (.inl 0, τ30))) else (some (.inl 0, τ28))) else (some (.inl 0, τ26))) else (some (.inl 0, τ22))) else (some (.inl 0, τ18))) else (some (.inl 0, τ16))) else (some (.inl 0, τ14))) else (some (.inl 0, τ12))) else (some (.inl 0, τ10))) else (some (.inl 0, τ8))))))

noncomputable def f_L_load_312 (g : zF)  : Nat → Int → Int → Int → Int → Int → Int → Int → Int → zS → zFn
  | 0, _, _, _, _, _, _, _, _, _ => none
  | n + 1, a0, a1, a2, a3, a4, a5, a6, a7, σ => if a7 < a6 then zbn (f_L_draw g a1 (w32 (40 + (w32 (4 * a7)))) 300 σ) fun x1 τ2 => zob 8 a4 τ2 (zbn (f_J4_append_15ec4 a4 (22 : Nat) τ2) fun x3 τ4 => zbn (f_L_draw g a1 (w32 (42 + (w32 (4 * a7)))) a2 τ4) fun x5 τ6 => if 0 ≤ (w32 (97 + x5)) ∧ (w32 (97 + x5)) < 256 then zob 8 x3 τ6 (zbn (f_J4_append_cf468 x3 (w32 (97 + x5)) τ6) fun x7 τ8 => zob 8 x7 τ8 (zbn (f_J4_append_15ec4 x7 (23 : Nat) τ8) fun x9 τ10 => zbn (f_L_draw g a1 (w32 (43 + (w32 (4 * a7)))) a3 τ10) fun x11 τ12 => if 0 ≤ (w32 (97 + x11)) ∧ (w32 (97 + x11)) < 256 then zob 8 x9 τ12 (zbn (f_J4_append_cf468 x9 (w32 (97 + x11)) τ12) fun x13 τ14 => zob 8 x13 τ14 (zbn (f_J4_append_15ec4 x13 (24 : Nat) τ14) fun x15 τ16 => zob 8 x15 τ16 (zbn (f_J4_append_bf812 x15 x1 τ16) fun x17 τ18 => zob 8 x17 τ18 (zbn (f_J4_append_15ec4 x17 (24 : Nat) τ18) fun x19 τ20 => zbn (f_L_draw g a1 (w32 (41 + (w32 (4 * a7)))) 120 τ20) fun x21 τ22 => zob 8 x19 τ22 (zbn (f_J4_append_bf812 x19 (w32 (x1 + x21)) τ22) fun x23 τ24 => zob 8 x23 τ24 (zbn (f_J4_append_15ec4 x23 (16 : Nat) τ24) fun x25 τ26 => f_L_load_312 g  n a0 a1 a2 a3 a4 a5 a6 (w32 (a7 + 1)) τ26)))))) else none)) else none) else (f_L_load_431 g  a0 a1 a2 a3 a4 a5 σ)

noncomputable def f_L_load_299 (g : zF)  (a0 a1 a2 a3 a4 a5 : Int) (σ : zS) : zFn := zbn (f_L_draw g a1 7 8 σ) fun x1 τ2 => f_L_load_312 g  8 a0 a1 a2 a3 a4 a5 x1 0 τ2

noncomputable def f_L_load_293 (g : zF) (r187 : Int → Int → Int → Int → Int → Int → Int → zS → zFn) (a0 a1 a2 a3 a4 a5 a6 : Int) (σ : zS) : zFn := r187 a0 a1 a2 a3 a4 a5 (w32 (a6 + 1)) σ

noncomputable def f_L_load_287 (g : zF) (r187 : Int → Int → Int → Int → Int → Int → Int → zS → zFn) (r196 : Int → Int → Int → Int → Int → Int → Int → Int → zS → zFn) (a0 a1 a2 a3 a4 a5 a6 a7 : Int) (σ : zS) : zFn := r196 a0 a1 a2 a3 a4 a5 a6 (w32 (a7 + 1)) σ

noncomputable def f_L_load_196 (g : zF) (r187 : Int → Int → Int → Int → Int → Int → Int → zS → zFn) : Nat → Int → Int → Int → Int → Int → Int → Int → Int → zS → zFn
  | 0, _, _, _, _, _, _, _, _, _ => none
  | n + 1, a0, a1, a2, a3, a4, a5, a6, a7, σ => if a7 < a6 then zbn (f_L_draw g a1 (w32 ((w32 (10 + (w32 (5 * a6)))) + a7)) 3 σ) fun x1 τ2 => if x1 = 0 then f_L_load_287 g r187 (f_L_load_196 g r187 n) a0 a1 a2 a3 a4 a5 a6 a7 τ2 else (zob 8 a4 τ2 (zbn (f_J4_append_15ec4 a4 (19 : Nat) τ2) fun x3 τ4 => if 0 ≤ (w32 (97 + a6)) ∧ (w32 (97 + a6)) < 256 then zob 8 x3 τ4 (zbn (f_J4_append_cf468 x3 (w32 (97 + a6)) τ4) fun x5 τ6 => zob 8 x5 τ6 (zbn (f_J4_append_15ec4 x5 (20 : Nat) τ6) fun x7 τ8 => if 0 ≤ (w32 (97 + a7)) ∧ (w32 (97 + a7)) < 256 then zob 8 x7 τ8 (zbn (f_J4_append_cf468 x7 (w32 (97 + a7)) τ8) fun x9 τ10 => zob 8 x9 τ10 (zbn (f_J4_append_15ec4 x9 (21 : Nat) τ10) fun x11 τ12 => zbn (f_L_draw g a1 (w32 ((w32 (11 + (w32 (5 * a6)))) + a7)) 11 τ12) fun x13 τ14 => zob 8 x11 τ14 (zbn (f_J4_append_bf812 x11 x13 τ14) fun x15 τ16 => zob 8 x15 τ16 (zbn (f_J4_append_15ec4 x15 (16 : Nat) τ16) fun x17 τ18 => f_L_load_287 g r187 (f_L_load_196 g r187 n) a0 a1 a2 a3 a4 (w32 (a5 + 1)) a6 a7 τ18)))) else none)) else none)) else (f_L_load_293 g r187 a0 a1 a2 a3 a4 a5 a6 σ)

noncomputable def f_L_load_187 (g : zF)  : Nat → Int → Int → Int → Int → Int → Int → Int → zS → zFn
  | 0, _, _, _, _, _, _, _, _ => none
  | n + 1, a0, a1, a2, a3, a4, a5, a6, σ => if a6 < a2 then f_L_load_196 g (f_L_load_187 g  n) 6 a0 a1 a2 a3 a4 a5 a6 0 σ else (f_L_load_299 g  a0 a1 a2 a3 a4 a5 σ)

noncomputable def f_L_load_181 (g : zF)  (a0 a1 a2 a3 a4 : Int) (σ : zS) : zFn := f_L_load_187 g  6 a0 a1 a2 a3 a4 0 0 σ

noncomputable def f_L_load_147 (g : zF)  : Nat → Int → Int → Int → Int → Int → Int → zS → zFn
  | 0, _, _, _, _, _, _, _ => none
  | n + 1, a0, a1, a2, a3, a4, a5, σ => if a5 < a3 then zob 8 a4 σ (zbn (f_J4_append_15ec4 a4 (18 : Nat) σ) fun x1 τ2 => if 0 ≤ (w32 (97 + a5)) ∧ (w32 (97 + a5)) < 256 then zob 8 x1 τ2 (zbn (f_J4_append_cf468 x1 (w32 (97 + a5)) τ2) fun x3 τ4 => zob 8 x3 τ4 (zbn (f_J4_append_15ec4 x3 (16 : Nat) τ4) fun x5 τ6 => f_L_load_147 g  n a0 a1 a2 a3 a4 (w32 (a5 + 1)) τ6)) else none) else (f_L_load_181 g  a0 a1 a2 a3 a4 σ)

noncomputable def f_L_load_144 (g : zF)  (a0 a1 a2 a3 a4 : Int) (σ : zS) : zFn := f_L_load_147 g  4 a0 a1 a2 a3 a4 0 σ

noncomputable def f_L_load_110 (g : zF)  : Nat → Int → Int → Int → Int → Int → Int → zS → zFn
  | 0, _, _, _, _, _, _, _ => none
  | n + 1, a0, a1, a2, a3, a4, a5, σ => if a5 < a2 then zob 8 a4 σ (zbn (f_J4_append_15ec4 a4 (17 : Nat) σ) fun x1 τ2 => if 0 ≤ (w32 (97 + a5)) ∧ (w32 (97 + a5)) < 256 then zob 8 x1 τ2 (zbn (f_J4_append_cf468 x1 (w32 (97 + a5)) τ2) fun x3 τ4 => zob 8 x3 τ4 (zbn (f_J4_append_15ec4 x3 (16 : Nat) τ4) fun x5 τ6 => f_L_load_110 g  n a0 a1 a2 a3 a4 (w32 (a5 + 1)) τ6)) else none) else (f_L_load_144 g  a0 a1 a2 a3 a4 σ)

noncomputable def f_L_load (g : zF)  (a0 a1 : Int) (σ : zS) : zFn := zbn (f_L_draw g a1 0 5 σ) fun x1 τ2 => zbn (f_L_draw g a1 1 3 τ2) fun x3 τ4 => znw τ4 (0, 8) fun x5 τ6 => if 0 ≤ x5 then zbn (f_J4_init_a7421 x5 (11 : Nat) τ6) fun _ τ8 => zbn (f_L_draw g a1 2 4 τ8) fun x9 τ10 => zob 8 x5 τ10 (zbn (f_J4_append_bf812 x5 x9 τ10) fun x11 τ12 => zob 8 x11 τ12 (zbn (f_J4_append_15ec4 x11 (12 : Nat) τ12) fun x13 τ14 => zbn (f_L_draw g a1 3 12 τ14) fun x15 τ16 => zob 8 x13 τ16 (zbn (f_J4_append_bf812 x13 x15 τ16) fun x17 τ18 => zob 8 x17 τ18 (zbn (f_J4_append_15ec4 x17 (13 : Nat) τ18) fun x19 τ20 => zbn (f_L_draw g a1 4 7 τ20) fun x21 τ22 => zob 8 x19 τ22 (zbn (f_J4_append_bf812 x19 x21 τ22) fun x23 τ24 => zob 8 x23 τ24 (zbn (f_J4_append_15ec4 x23 (14 : Nat) τ24) fun x25 τ26 => zbn (f_L_draw g a1 5 40 τ26) fun x27 τ28 => zob 8 x25 τ28 (zbn (f_J4_append_bf812 x25 (w32 (2 + x27)) τ28) fun x29 τ30 => zob 8 x29 τ30 (zbn (f_J4_append_15ec4 x29 (15 : Nat) τ30) fun x31 τ32 => zbn (f_L_draw g a1 6 3 τ32) fun x33 τ34 => zob 8 x31 τ34 (zbn (f_J4_append_bf812 x31 (w32 (1 + x33)) τ34) fun x35 τ36 => zob 8 x35 τ36 (zbn (f_J4_append_15ec4 x35 (16 : Nat) τ36) fun x37 τ38 => f_L_load_110 g  6 a0 a1 (w32 (1 + x1)) (w32 (1 + x3)) x37 0 τ38)))))))))) else none

noncomputable def f_L_act_228 (g : zF)  (s0 s1 s2 s3 : Int) (σ : zS) : zFn := zob 7 s0 σ (zbn (f_X7_link s0 s1 s2 s3 σ) fun x1 τ2 => if x1 = 0 then some (.inl 0, τ2) else (some (.inl 1, τ2)))

noncomputable def f_L_act (g : zF)  (a0 a1 a2 : Int) (σ : zS) : zFn := zob 7 a0 σ (zbn (f_X7_property a0 0 σ) fun x1 τ2 => if x1 = 0 then some (.inl 0, τ2) else (zob 7 a0 τ2 (zbn (f_X7_property a0 1 τ2) fun x3 τ4 => if x3 = 0 then some (.inl 0, τ4) else (zob 7 a0 τ4 (zbn (f_X7_property a0 0 τ4) fun x5 τ6 => zbn (f_L_draw g a1 a2 x5 τ6) fun x7 τ8 => zob 7 a0 τ8 (zbn (f_X7_property a0 0 τ8) fun x9 τ10 => zbn (f_L_draw g a1 (w32 (a2 + 1)) x9 τ10) fun x11 τ12 => zob 7 a0 τ12 (zbn (f_X7_property a0 1 τ12) fun x13 τ14 => zbn (f_L_draw g a1 (w32 (a2 + 2)) x13 τ14) fun x15 τ16 => zbn (f_L_draw g a1 (w32 (a2 + 3)) 300 τ16) fun x17 τ18 => zbn (f_L_draw g a1 (w32 (a2 + 4)) 12 τ18) fun x19 τ20 => ztb x19 0 [zbn (f_L_draw g a1 (w32 (a2 + 5)) 120 τ20) fun x25 τ26 => zob 7 a0 τ26 (zbn (f_X7_probe a0 x7 x15 x17 (w32 (x17 + x25)) τ26) fun x27 τ28 => some (.inl x27, τ28)), zbn (f_L_draw g a1 (w32 (a2 + 5)) 120 τ20) fun x29 τ30 => zob 7 a0 τ30 (zbn (f_X7_probe a0 x7 x15 x17 (w32 (x17 + x29)) τ30) fun x31 τ32 => some (.inl x31, τ32)), zob 7 a0 τ20 (zbn (f_X7_share a0 x7 τ20) fun x33 τ34 => some (.inl x33, τ34)), zob 7 a0 τ20 (zbn (f_X7_relay a0 x7 τ20) fun x35 τ36 => some (.inl x35, τ36)), zbn (f_L_draw g a1 (w32 (a2 + 5)) 9 τ20) fun x37 τ38 => zob 7 a0 τ38 (zbn (f_X7_deliver a0 (w32 (1 + x37)) τ38) fun x39 τ40 => some (.inl x39, τ40)), zbn (f_L_draw g a1 (w32 (a2 + 5)) 9 τ20) fun x41 τ42 => zob 7 a0 τ42 (zbn (f_X7_deliver a0 (w32 (1 + x41)) τ42) fun x43 τ44 => some (.inl x43, τ44)), zbn (f_L_draw g a1 (w32 (a2 + 5)) 6 τ20) fun x45 τ46 => zob 7 a0 τ46 (zbn (f_X7_pass a0 (w32 (1 + x45)) τ46) fun x47 τ48 => some (.inl x47, τ48)), if x7 = x11 then some (.inl 0, τ20) else if 2 = 0 then none else if (Int.tmod x17 2) = 0 then f_L_act_228 g  a0 x7 x11 1 τ20 else (f_L_act_228 g  a0 x7 x11 0 τ20), zbn (f_L_draw g a1 (w32 (a2 + 5)) 5 τ20) fun x49 τ50 => if 3 = 0 then none else zob 7 a0 τ50 (zbn (f_X7_setRule a0 x49 (w32 (1 + (Int.tmod x17 3))) τ50) fun x51 τ52 => some (.inl x51, τ52)), zbn (f_L_draw g a1 (w32 (a2 + 5)) 2 τ20) fun x53 τ54 => zob 7 a0 τ54 (zbn (f_X7_exchange a0 (w32 (1 + x53)) τ54) fun x55 τ56 => some (.inl x55, τ56)), zob 7 a0 τ20 (zbn (f_X7_cleanse a0 x7 τ20) fun x57 τ58 => some (.inl x57, τ58))] (if 4 = 0 then none else if (Int.tmod x17 4) = 0 then zob 7 a0 τ20 (zbn (f_X7_forget a0 x7 x15 τ20) fun x23 τ24 => some (.inl x23, τ24)) else (zob 7 a0 τ20 (zbn (f_X7_share a0 x11 τ20) fun x21 τ22 => some (.inl x21, τ22)))))))))))

noncomputable def f_L_low  (a0 a1 a2 a3 : Int) (σ : zS) : zFn := zob 7 a0 σ (zbn (f_X7_report a0 a1 a2 5 σ) fun x1 τ2 => some (.inl (max 0 (w32 (x1 - a3))), τ2))

noncomputable def f_L_top  (a0 a1 a2 a3 : Int) (σ : zS) : zFn := zob 7 a0 σ (zbn (f_X7_report a0 a1 a2 6 σ) fun x1 τ2 => some (.inl (min 999 (w32 (x1 + a3))), τ2))

noncomputable def f_L_drift  (a0 a1 a2 : Int) (σ : zS) : zFn := zob 7 a0 σ (zbn (f_X7_property a0 3 σ) fun x1 τ2 => zob 7 a0 τ2 (zbn (f_X7_property a0 2 τ2) fun x3 τ4 => zob 7 a0 τ4 (zbn (f_X7_report a0 a1 a2 4 τ4) fun x5 τ6 => some (.inl (w32 (x1 * (w32 (x3 - x5)))), τ6))))

noncomputable def f_L_ahead_16  (a0 a1 a2 a3 s0 : Int) (σ : zS) : zFn := if s0 = 0 then zob 7 a0 σ (zbn (f_X7_report a0 a1 a3 0 σ) fun x1 τ2 => if x1 = a1 then if s0 = 0 ∨ s0 = 1 then some (.inl s0, τ2) else none else (zob 7 a0 τ2 (zbn (f_X7_report a0 a1 a2 1 τ2) fun x3 τ4 => zob 7 a0 τ4 (zbn (f_X7_trust a0 a1 x3 τ4) fun x5 τ6 => zob 7 a0 τ6 (zbn (f_X7_report a0 a1 a3 1 τ6) fun x7 τ8 => zob 7 a0 τ8 (zbn (f_X7_trust a0 a1 x7 τ8) fun x9 τ10 => if x5 = x9 then zob 7 a0 τ10 (zbn (f_X7_report a0 a1 a2 2 τ10) fun x11 τ12 => zob 7 a0 τ12 (zbn (f_X7_report a0 a1 a3 2 τ12) fun x13 τ14 => if (w32 (x11 - x13)) = 0 then zob 7 a0 τ14 (zbn (f_X7_report a0 a1 a2 0 τ14) fun x15 τ16 => zob 7 a0 τ16 (zbn (f_X7_report a0 a1 a3 0 τ16) fun x17 τ18 => if x15 < x17 then some (.inl 1, τ18) else (some (.inl 0, τ18)))) else if (w32 (x11 - x13)) < 0 then some (.inl 1, τ14) else (some (.inl 0, τ14)))) else if x9 < x5 then some (.inl 1, τ10) else (some (.inl 0, τ10)))))))) else if s0 = 0 ∨ s0 = 1 then some (.inl s0, σ) else none

noncomputable def f_L_ahead  (a0 a1 a2 a3 : Int) (σ : zS) : zFn := zob 7 a0 σ (zbn (f_X7_report a0 a1 a2 0 σ) fun x1 τ2 => if x1 = a1 then f_L_ahead_16  a0 a1 a2 a3 1 τ2 else (f_L_ahead_16  a0 a1 a2 a3 0 τ2))

noncomputable def f_L_isOut  (a0 a1 a2 : Int) (σ : zS) : zFn := zob 7 a0 σ (zbn (f_X7_report a0 a1 a2 0 σ) fun x1 τ2 => if x1 = a1 then some (.inl 0, τ2) else (zob 7 a0 τ2 (zbn (f_X7_report a0 a1 a2 1 τ2) fun x3 τ4 => zob 7 a0 τ4 (zbn (f_X7_trust a0 a1 x3 τ4) fun x5 τ6 => if x5 < 0 then some (.inl 1, τ6) else (zob 7 a0 τ6 (zbn (f_X7_report a0 a1 a2 1 τ6) fun x7 τ8 => zob 7 a0 τ8 (zbn (f_X7_trust a0 a1 x7 τ8) fun x9 τ10 => zob 7 a0 τ10 (zbn (f_X7_property a0 5 τ10) fun x11 τ12 => if x9 < x11 then some (.inl 1, τ12) else (some (.inl 0, τ12))))))))))

noncomputable def f_L_by  (a0 a1 a2 : Int) (σ : zS) : zFn := zbn (f_L_drift a0 a1 a2 σ) fun x1 τ2 => zob 7 a0 τ2 (zbn (f_X7_report a0 a1 a2 0 τ2) fun x3 τ4 => if x3 = a1 then some (.inl (w32 (x1 + 0)), τ4) else (zob 7 a0 τ4 (zbn (f_X7_property a0 4 τ4) fun x5 τ6 => zob 7 a0 τ6 (zbn (f_X7_report a0 a1 a2 1 τ6) fun x7 τ8 => zob 7 a0 τ8 (zbn (f_X7_trust a0 a1 x7 τ8) fun x9 τ10 => zob 7 a0 τ10 (zbn (f_X7_report a0 a1 a2 2 τ10) fun x11 τ12 => some (.inl (w32 (x1 + (w32 ((w32 (x5 * (w32 (10 - x9)))) * x11)))), τ12)))))))

noncomputable def f_L_agrees_231  (a0 a1 a2 a5 a6 a7 : Int) (σ : zS) : zFn := zob 7 a0 σ (zbn (f_X7_majority a0 a1 a2 σ) fun x1 τ2 => if x1 = a5 then zob 7 a0 τ2 (zbn (f_X7_majorityBound a0 a1 a2 0 τ2) fun x3 τ4 => if x3 = a6 then zob 7 a0 τ4 (zbn (f_X7_majorityBound a0 a1 a2 1 τ4) fun x5 τ6 => if x5 = a7 then some (.inl 1, τ6) else (some (.inl 0, τ6))) else (some (.inl 0, τ4))) else (some (.inl 0, τ2)))

noncomputable def f_L_agrees_225 (r73 : Int → Int → Int → Int → Int → Int → Int → Int → Int → zS → zFn) (a0 a1 a2 a3 a4 a5 a6 a7 a8 : Int) (σ : zS) : zFn := r73 a0 a1 a2 a3 a4 a5 a6 a7 (w32 (a8 + 1)) σ

noncomputable def f_L_agrees_213 (r73 : Int → Int → Int → Int → Int → Int → Int → Int → Int → zS → zFn) (a0 a1 a2 a3 a4 a8 a9 a10 a11 : Int) (σ : zS) : zFn := f_L_agrees_225 r73 a0 a1 a2 a3 a4 a11 a9 a10 a8 σ

noncomputable def f_L_agrees_173 (r73 : Int → Int → Int → Int → Int → Int → Int → Int → Int → zS → zFn) (a0 a1 a2 a3 a4 a5 a6 a7 a8 a9 a10 a11 : Int) (σ : zS) : zFn := zbn (f_J6_bitCount_0f7a4 a11 σ) fun x1 τ2 => zbn (f_J6_bitCount_0f7a4 a5 τ2) fun x3 τ4 => if a10 < a9 then f_L_agrees_225 r73 a0 a1 a2 a3 a4 a5 a6 a7 a8 τ4 else if (w32 (x1 - x3)) < 0 then f_L_agrees_225 r73 a0 a1 a2 a3 a4 a5 a6 a7 a8 τ4 else if (w32 (x1 - x3)) = 0 then if a5 < a11 then f_L_agrees_225 r73 a0 a1 a2 a3 a4 a5 a6 a7 a8 τ4 else (f_L_agrees_213 r73 a0 a1 a2 a3 a4 a8 a9 a10 a11 τ4) else (f_L_agrees_213 r73 a0 a1 a2 a3 a4 a8 a9 a10 a11 τ4)

noncomputable def f_L_agrees_167 (r73 : Int → Int → Int → Int → Int → Int → Int → Int → Int → zS → zFn) (r96 : Int → Int → Int → Int → Int → Int → Int → Int → Int → Int → Int → Int → Int → zS → zFn) (a0 a1 a2 a3 a4 a5 a6 a7 a8 a9 a10 a11 a12 : Int) (σ : zS) : zFn := r96 a0 a1 a2 a3 a4 a5 a6 a7 a8 a9 a10 a11 (w32 (a12 + 1)) σ

noncomputable def f_L_agrees_96 (r73 : Int → Int → Int → Int → Int → Int → Int → Int → Int → zS → zFn) : Nat → Int → Int → Int → Int → Int → Int → Int → Int → Int → Int → Int → Int → Int → zS → zFn
  | 0, _, _, _, _, _, _, _, _, _, _, _, _, _, _ => none
  | n + 1, a0, a1, a2, a3, a4, a5, a6, a7, a8, a9, a10, a11, a12, σ => if a12 < a4 then if (zand (zshr a8 a12) 1) = 0 then f_L_agrees_167 r73 (f_L_agrees_96 r73 n) a0 a1 a2 a3 a4 a5 a6 a7 a8 a9 a10 a11 a12 σ else (zld 1 a3 a12 σ fun x1 => zob 7 a0 σ (zbn (f_X7_moved a0 a1 x1 0 σ) fun x2 τ3 => zld 1 a3 a12 τ3 fun x4 => zob 7 a0 τ3 (zbn (f_X7_moved a0 a1 x4 1 τ3) fun x5 τ6 => zld 1 a3 a12 τ6 fun x7 => zob 7 a0 τ6 (zbn (f_X7_report a0 a1 x7 0 τ6) fun x8 τ9 => f_L_agrees_167 r73 (f_L_agrees_96 r73 n) a0 a1 a2 a3 a4 a5 a6 a7 a8 (max a9 x2) (min a10 x5) (zor a11 (zshl 1 x8)) a12 τ9)))) else (f_L_agrees_173 r73 a0 a1 a2 a3 a4 a5 a6 a7 a8 a9 a10 a11 σ)

noncomputable def f_L_agrees_73  : Nat → Int → Int → Int → Int → Int → Int → Int → Int → Int → zS → zFn
  | 0, _, _, _, _, _, _, _, _, _, _ => none
  | n + 1, a0, a1, a2, a3, a4, a5, a6, a7, a8, σ => if a8 < (zshl 1 a4) then f_L_agrees_96 (f_L_agrees_73  n) zFU a0 a1 a2 a3 a4 a5 a6 a7 a8 0 999 0 0 σ else (f_L_agrees_231  a0 a1 a2 a5 a6 a7 σ)

noncomputable def f_L_agrees_61  (a0 a1 a2 a3 a4 : Int) (σ : zS) : zFn := f_L_agrees_73  zFU a0 a1 a2 a3 a4 0 (-1) (-1) 1 σ

noncomputable def f_L_agrees_55 (r11 : Int → Int → Int → Int → Int → Int → zS → zFn) (a0 a1 a2 a3 a4 a5 : Int) (σ : zS) : zFn := r11 a0 a1 a2 a3 a4 (w32 (a5 + 1)) σ

noncomputable def f_L_agrees_11  : Nat → Int → Int → Int → Int → Int → Int → zS → zFn
  | 0, _, _, _, _, _, _, _ => none
  | n + 1, a0, a1, a2, a3, a4, a5, σ => zob 7 a0 σ (zbn (f_X7_reports a0 a1 σ) fun x1 τ2 => if a5 < x1 then zob 7 a0 τ2 (zbn (f_X7_report a0 a1 a5 3 τ2) fun x3 τ4 => if x3 = a2 then zbn (f_L_isOut a0 a1 a5 τ4) fun x5 τ6 => if x5 = 0 then zsi 1 a3 a4 a5 τ6 fun τ7 => f_L_agrees_55 (f_L_agrees_11  n) a0 a1 a2 a3 (w32 (a4 + 1)) a5 τ7 else (f_L_agrees_55 (f_L_agrees_11  n) a0 a1 a2 a3 a4 a5 τ6) else (f_L_agrees_55 (f_L_agrees_11  n) a0 a1 a2 a3 a4 a5 τ4)) else (f_L_agrees_61  a0 a1 a2 a3 a4 τ2))

noncomputable def f_L_agrees  (a0 a1 a2 : Int) (σ : zS) : zFn := zna 1 6 6 σ fun x1 τ2 => f_L_agrees_11  zFU a0 a1 a2 x1 0 0 τ2

noncomputable def f_L_believes_404  (a0 a1 a2 a5 a6 a7 a8 : Int) (σ : zS) : zFn := zob 7 a0 σ (zbn (f_X7_belief a0 a1 a2 0 σ) fun x1 τ2 => if x1 = a5 then zob 7 a0 τ2 (zbn (f_X7_belief a0 a1 a2 1 τ2) fun x3 τ4 => if x3 = a6 then zob 7 a0 τ4 (zbn (f_X7_sources a0 a1 a2 τ4) fun x5 τ6 => if x5 = a7 then zob 7 a0 τ6 (zbn (f_X7_contradicted a0 a1 a2 τ6) fun x7 τ8 => if x7 = a8 then zbn (f_L_agrees a0 a1 a2 τ8) fun x9 τ10 => if x9 = 0 then some (.inl 0, τ10) else (some (.inl 1, τ10)) else (some (.inl 0, τ8))) else (some (.inl 0, τ6))) else (some (.inl 0, τ4))) else (some (.inl 0, τ2)))

noncomputable def f_L_believes_398 (r109 : Int → Int → Int → Int → Int → Int → Int → Int → Int → Int → zS → zFn) (a0 a1 a2 a3 a4 a5 a6 a7 a8 a9 : Int) (σ : zS) : zFn := r109 a0 a1 a2 a3 a4 a5 a6 a7 a8 (w32 (a9 + 1)) σ

noncomputable def f_L_believes_396 (r109 : Int → Int → Int → Int → Int → Int → Int → Int → Int → Int → zS → zFn) (a0 a1 a2 a3 a4 a5 a7 a8 a9 s0 : Int) (σ : zS) : zFn := f_L_believes_398 r109 a0 a1 a2 a3 a4 a5 s0 a7 a8 a9 σ

noncomputable def f_L_believes_377 (r109 : Int → Int → Int → Int → Int → Int → Int → Int → Int → Int → zS → zFn) (a0 a1 a2 a3 a4 a6 a7 a8 a9 a13 a15 s0 : Int) (σ : zS) : zFn := if a15 = 0 then f_L_believes_396 r109 a0 a1 a2 a3 a4 s0 a7 a8 a9 a6 σ else (f_L_believes_396 r109 a0 a1 a2 a3 a4 s0 a7 a8 a9 (min a6 a13) σ)

noncomputable def f_L_believes_357 (r109 : Int → Int → Int → Int → Int → Int → Int → Int → Int → Int → zS → zFn) (a0 a1 a2 a3 a4 a5 a6 a7 a9 a12 a13 a15 s0 s1 : Int) (σ : zS) : zFn := if a15 = 0 then f_L_believes_377 r109 a0 a1 a2 a3 a4 a6 a7 (zor s0 s1) a9 a13 a15 a5 σ else (f_L_believes_377 r109 a0 a1 a2 a3 a4 a6 a7 (zor s0 s1) a9 a13 a15 (max a5 a12) σ)

noncomputable def f_L_believes_333 (r109 : Int → Int → Int → Int → Int → Int → Int → Int → Int → Int → zS → zFn) (a0 a1 a2 a3 a4 a5 a6 a8 a9 a10 a12 a13 a15 s0 s1 : Int) (σ : zS) : zFn := if a15 = 0 then zob 7 a0 σ (zbn (f_X7_report a0 a1 a10 0 σ) fun x1 τ2 => f_L_believes_357 r109 a0 a1 a2 a3 a4 a5 a6 (zor s0 s1) a9 a12 a13 a15 a8 (zshl 1 x1) τ2) else (f_L_believes_357 r109 a0 a1 a2 a3 a4 a5 a6 (zor s0 s1) a9 a12 a13 a15 a8 0 σ)

noncomputable def f_L_believes_299 (r109 : Int → Int → Int → Int → Int → Int → Int → Int → Int → Int → zS → zFn) (a0 a1 a2 a3 a4 a5 a6 a7 a8 a9 a10 a12 a13 a14 a15 s0 s1 : Int) (σ : zS) : zFn := if s0 = s1 then if a14 = 0 then if a15 = 0 then f_L_believes_333 r109 a0 a1 a2 a3 a4 a5 a6 a8 a9 a10 a12 a13 a15 a7 0 σ else (zob 7 a0 σ (zbn (f_X7_report a0 a1 a10 0 σ) fun x1 τ2 => f_L_believes_333 r109 a0 a1 a2 a3 a4 a5 a6 a8 a9 a10 a12 a13 a15 a7 (zshl 1 x1) τ2)) else (f_L_believes_398 r109 a0 a1 a2 a3 a4 a5 a6 a7 a8 a9 σ) else (some (.inl 0, σ))

noncomputable def f_L_believes_271 (r109 : Int → Int → Int → Int → Int → Int → Int → Int → Int → Int → zS → zFn) (a0 a1 a2 a3 a4 a5 a6 a7 a8 a9 a10 a12 a13 a14 s0 : Int) (σ : zS) : zFn := zob 7 a0 σ (zbn (f_X7_status a0 a1 a10 σ) fun x1 τ2 => if a14 = 0 then if s0 = 0 then f_L_believes_299 r109 a0 a1 a2 a3 a4 a5 a6 a7 a8 a9 a10 a12 a13 a14 s0 x1 1 τ2 else (f_L_believes_299 r109 a0 a1 a2 a3 a4 a5 a6 a7 a8 a9 a10 a12 a13 a14 s0 x1 0 τ2) else (f_L_believes_299 r109 a0 a1 a2 a3 a4 a5 a6 a7 a8 a9 a10 a12 a13 a14 s0 x1 2 τ2))

noncomputable def f_L_believes_270 (r109 : Int → Int → Int → Int → Int → Int → Int → Int → Int → Int → zS → zFn) (a0 a1 a2 a3 a4 a5 a6 a7 a8 a9 a10 a12 a13 a14 : Int) (σ : zS) : zFn := f_L_believes_271 r109 a0 a1 a2 a3 a4 a5 a6 a7 a8 a9 a10 a12 a13 a14 0 σ

noncomputable def f_L_believes_205 (r109 : Int → Int → Int → Int → Int → Int → Int → Int → Int → Int → zS → zFn) (a0 a1 a2 a3 a4 a5 a6 a7 a8 a9 a10 a12 s0 : Int) (σ : zS) : zFn := zob 7 a0 σ (zbn (f_X7_moved a0 a1 a10 0 σ) fun x1 τ2 => if x1 = a12 then zob 7 a0 τ2 (zbn (f_X7_moved a0 a1 a10 1 τ2) fun x3 τ4 => if x3 = s0 then zbn (f_L_isOut a0 a1 a10 τ4) fun x5 τ6 => if x5 = 0 then if (min a6 s0) < (max a5 a12) then f_L_believes_270 r109 a0 a1 a2 a3 a4 a5 a6 a7 a8 a9 a10 a12 s0 x5 τ6 else (f_L_believes_271 r109 a0 a1 a2 a3 a4 a5 a6 a7 a8 a9 a10 a12 s0 x5 1 τ6) else (f_L_believes_270 r109 a0 a1 a2 a3 a4 a5 a6 a7 a8 a9 a10 a12 s0 x5 τ6) else (some (.inl 0, τ4))) else (some (.inl 0, τ2)))

noncomputable def f_L_believes_180 (r109 : Int → Int → Int → Int → Int → Int → Int → Int → Int → Int → zS → zFn) (a0 a1 a2 a3 a4 a5 a6 a7 a8 a9 a10 a11 s0 : Int) (σ : zS) : zFn := if a11 = 0 then f_L_believes_205 r109 a0 a1 a2 a3 a4 a5 a6 a7 a8 a9 a10 s0 (-1) σ else (zbn (f_L_by a0 a1 a10 σ) fun x1 τ2 => zbn (f_L_top a0 a1 a10 x1 τ2) fun x3 τ4 => f_L_believes_205 r109 a0 a1 a2 a3 a4 a5 a6 a7 a8 a9 a10 s0 x3 τ4)

noncomputable def f_L_believes_155 (r109 : Int → Int → Int → Int → Int → Int → Int → Int → Int → Int → zS → zFn) (a0 a1 a2 a3 a4 a5 a6 a7 a8 a9 a10 s0 : Int) (σ : zS) : zFn := if s0 = 0 then f_L_believes_180 r109 a0 a1 a2 a3 a4 a5 a6 a7 a8 a9 a10 s0 (-1) σ else (zbn (f_L_by a0 a1 a10 σ) fun x1 τ2 => zbn (f_L_low a0 a1 a10 x1 τ2) fun x3 τ4 => f_L_believes_180 r109 a0 a1 a2 a3 a4 a5 a6 a7 a8 a9 a10 s0 x3 τ4)

noncomputable def f_L_believes_150 (r109 : Int → Int → Int → Int → Int → Int → Int → Int → Int → Int → zS → zFn) (a0 a1 a2 a3 a4 a5 a6 a7 a8 a9 a10 : Int) (σ : zS) : zFn := f_L_believes_155 r109 a0 a1 a2 a3 a4 a5 a6 a7 a8 a9 a10 1 σ

noncomputable def f_L_believes_109  : Nat → Int → Int → Int → Int → Int → Int → Int → Int → Int → Int → zS → zFn
  | 0, _, _, _, _, _, _, _, _, _, _, _ => none
  | n + 1, a0, a1, a2, a3, a4, a5, a6, a7, a8, a9, σ => if a9 < a4 then zld 1 a3 a9 σ fun x1 => zob 7 a0 σ (zbn (f_X7_report a0 a1 x1 0 σ) fun x2 τ3 => if x2 = a1 then f_L_believes_150 (f_L_believes_109  n) a0 a1 a2 a3 a4 a5 a6 a7 a8 a9 x1 τ3 else (zob 7 a0 τ3 (zbn (f_X7_report a0 a1 x1 1 τ3) fun x4 τ5 => zob 7 a0 τ5 (zbn (f_X7_trust a0 a1 x4 τ5) fun x6 τ7 => if x6 < 0 then f_L_believes_155 (f_L_believes_109  n) a0 a1 a2 a3 a4 a5 a6 a7 a8 a9 x1 0 τ7 else (f_L_believes_150 (f_L_believes_109  n) a0 a1 a2 a3 a4 a5 a6 a7 a8 a9 x1 τ7))))) else (f_L_believes_404  a0 a1 a2 a5 a6 a7 a8 σ)

noncomputable def f_L_believes_92  (a0 a1 a2 a3 a4 : Int) (σ : zS) : zFn := f_L_believes_109  zFU a0 a1 a2 a3 a4 0 999 0 0 0 σ

noncomputable def f_L_believes_86 (r14 : Int → Int → Int → Int → Int → Int → zS → zFn) (a0 a1 a2 a3 a4 a5 : Int) (σ : zS) : zFn := r14 a0 a1 a2 a3 a4 (w32 (a5 + 1)) σ

noncomputable def f_L_believes_77 (r14 : Int → Int → Int → Int → Int → Int → zS → zFn) (a0 a1 a2 a3 a4 a5 a6 : Int) (σ : zS) : zFn := zsi 1 a3 a6 a5 σ fun τ1 => f_L_believes_86 r14 a0 a1 a2 a3 (w32 (a4 + 1)) a5 τ1

noncomputable def f_L_believes_40 (r14 : Int → Int → Int → Int → Int → Int → zS → zFn) : Nat → Int → Int → Int → Int → Int → Int → Int → zS → zFn
  | 0, _, _, _, _, _, _, _, _ => none
  | n + 1, a0, a1, a2, a3, a4, a5, a6, σ => if 0 < a6 then zld 1 a3 (w32 (a6 - 1)) σ fun x1 => zbn (f_L_ahead a0 a1 a5 x1 σ) fun x2 τ3 => if x2 = 0 then f_L_believes_77 r14 a0 a1 a2 a3 a4 a5 a6 τ3 else (zld 1 a3 (w32 (a6 - 1)) τ3 fun x4 => zsi 1 a3 a6 x4 τ3 fun τ5 => f_L_believes_40 r14 n a0 a1 a2 a3 a4 a5 (w32 (a6 + (-1))) τ5) else (f_L_believes_77 r14 a0 a1 a2 a3 a4 a5 a6 σ)

noncomputable def f_L_believes_14  : Nat → Int → Int → Int → Int → Int → Int → zS → zFn
  | 0, _, _, _, _, _, _, _ => none
  | n + 1, a0, a1, a2, a3, a4, a5, σ => zal a3 σ fun x1 => if a5 < x1 then zob 7 a0 σ (zbn (f_X7_report a0 a1 a5 3 σ) fun x2 τ3 => if x2 = a2 then f_L_believes_40 (f_L_believes_14  n) zFU a0 a1 a2 a3 a4 a5 a4 τ3 else (f_L_believes_86 (f_L_believes_14  n) a0 a1 a2 a3 a4 a5 τ3)) else (f_L_believes_92  a0 a1 a2 a3 a4 σ)

noncomputable def f_L_believes  (a0 a1 a2 : Int) (σ : zS) : zFn := zob 7 a0 σ (zbn (f_X7_reports a0 a1 σ) fun x1 τ2 => zna 1 36 x1 τ2 fun x3 τ4 => f_L_believes_14  zFU a0 a1 a2 x3 0 0 τ4)

noncomputable def f_L_width  (a0 a1 a2 : Int) (σ : zS) : zFn := zob 7 a0 σ (zbn (f_X7_belief a0 a1 a2 1 σ) fun x1 τ2 => zob 7 a0 τ2 (zbn (f_X7_belief a0 a1 a2 0 τ2) fun x3 τ4 => some (.inl (w32 (x1 - x3)), τ4)))

noncomputable def f_L_chooses_493  (a0 a1 a2 s0 s1 : Int) (σ : zS) : zFn := if s0 = s1 then zob 7 a0 σ (zbn (f_X7_regret a0 a1 σ) fun x1 τ2 => zld 1 a2 0 τ2 fun x3 => zob 7 a0 τ2 (zbn (f_X7_belief a0 a1 x3 1 τ2) fun x4 τ5 => zld 1 a2 1 τ5 fun x6 => zob 7 a0 τ5 (zbn (f_X7_belief a0 a1 x6 0 τ5) fun x7 τ8 => if x1 = (w32 (x4 - x7)) then some (.inl 1, τ8) else (some (.inl 0, τ8))))) else (some (.inl 0, σ))

noncomputable def f_L_chooses_467  (a0 a1 a2 a4 a5 : Int) (σ : zS) : zFn := zob 7 a0 σ (zbn (f_X7_rivals a0 a1 σ) fun x1 τ2 => if x1 = a4 then zob 7 a0 τ2 (zbn (f_X7_nextProbe a0 a1 τ2) fun x3 τ4 => if a4 = 0 then f_L_chooses_493  a0 a1 a2 x3 (-1) τ4 else (f_L_chooses_493  a0 a1 a2 x3 a5 τ4)) else (some (.inl 0, τ2)))

noncomputable def f_L_chooses_461 (r408 : Int → Int → Int → Int → Int → Int → zS → zFn) (a0 a1 a2 a4 a5 a6 : Int) (σ : zS) : zFn := r408 a0 a1 a2 a4 a5 (w32 (a6 + 1)) σ

noncomputable def f_L_chooses_457 (r408 : Int → Int → Int → Int → Int → Int → zS → zFn) (a0 a1 a2 a4 a6 : Int) (σ : zS) : zFn := f_L_chooses_461 r408 a0 a1 a2 a4 a6 a6 σ

noncomputable def f_L_chooses_408  : Nat → Int → Int → Int → Int → Int → Int → zS → zFn
  | 0, _, _, _, _, _, _, _ => none
  | n + 1, a0, a1, a2, a4, a5, a6, σ => zob 7 a0 σ (zbn (f_X7_property a0 1 σ) fun x1 τ2 => if a6 < x1 then zld 1 a2 0 τ2 fun x3 => if (zand (zshr (zor a4 (zshl 1 x3)) a6) 1) = 1 then if a5 < 0 then f_L_chooses_457 (f_L_chooses_408  n) a0 a1 a2 a4 a6 τ2 else (zbn (f_L_width a0 a1 a6 τ2) fun x4 τ5 => zbn (f_L_width a0 a1 a5 τ5) fun x6 τ7 => if x6 < x4 then f_L_chooses_457 (f_L_chooses_408  n) a0 a1 a2 a4 a6 τ7 else (f_L_chooses_461 (f_L_chooses_408  n) a0 a1 a2 a4 a5 a6 τ7)) else (f_L_chooses_461 (f_L_chooses_408  n) a0 a1 a2 a4 a5 a6 τ2) else (f_L_chooses_467  a0 a1 a2 a4 a5 τ2))

noncomputable def f_L_chooses_402  (a0 a1 a2 a4 : Int) (σ : zS) : zFn := f_L_chooses_408  zFU a0 a1 a2 a4 (-1) 0 σ

noncomputable def f_L_chooses_393 (r345 : Int → Int → Int → Int → Int → zS → zFn) (a0 a1 a2 a5 s0 s1 : Int) (σ : zS) : zFn := r345 a0 a1 a2 (zor s0 s1) (w32 (a5 + 1)) σ

noncomputable def f_L_chooses_392 (r345 : Int → Int → Int → Int → Int → zS → zFn) (a0 a1 a2 a5 s0 : Int) (σ : zS) : zFn := f_L_chooses_393 r345 a0 a1 a2 a5 s0 0 σ

noncomputable def f_L_chooses_345  : Nat → Int → Int → Int → Int → Int → zS → zFn
  | 0, _, _, _, _, _, _ => none
  | n + 1, a0, a1, a2, a4, a5, σ => zob 7 a0 σ (zbn (f_X7_property a0 1 σ) fun x1 τ2 => if a5 < x1 then zld 1 a2 0 τ2 fun x3 => if a5 = x3 then f_L_chooses_392 (f_L_chooses_345  n) a0 a1 a2 a5 a4 τ2 else (zob 7 a0 τ2 (zbn (f_X7_belief a0 a1 a5 0 τ2) fun x4 τ5 => zld 1 a2 0 τ5 fun x6 => zob 7 a0 τ5 (zbn (f_X7_belief a0 a1 x6 1 τ5) fun x7 τ8 => if x4 < x7 then f_L_chooses_393 (f_L_chooses_345  n) a0 a1 a2 a5 a4 (zshl 1 a5) τ8 else (f_L_chooses_392 (f_L_chooses_345  n) a0 a1 a2 a5 a4 τ8)))) else (f_L_chooses_402  a0 a1 a2 a4 τ2))

noncomputable def f_L_chooses_290  (a0 a1 a2 a3 : Int) (σ : zS) : zFn := zob 7 a0 σ (zbn (f_X7_saved a0 a1 σ) fun x1 τ2 => if x1 = a3 then zld 1 a2 0 τ2 fun x3 => if x3 < 0 then zob 7 a0 τ2 (zbn (f_X7_rivals a0 a1 τ2) fun x4 τ5 => if x4 = 0 then zob 7 a0 τ5 (zbn (f_X7_nextProbe a0 a1 τ5) fun x6 τ7 => if x6 = (-1) then zob 7 a0 τ7 (zbn (f_X7_regret a0 a1 τ7) fun x8 τ9 => if x8 = (-1) then some (.inl 1, τ9) else (some (.inl 0, τ9))) else (some (.inl 0, τ7))) else (some (.inl 0, τ5))) else (f_L_chooses_345  zFU a0 a1 a2 0 0 τ2) else (some (.inl 0, τ2)))

noncomputable def f_L_chooses_262  : Nat → Int → Int → Int → Int → Int → zS → zFn
  | 0, _, _, _, _, _, _ => none
  | n + 1, a0, a1, a2, a3, a4, σ => if a4 < 3 then zob 7 a0 σ (zbn (f_X7_best a0 a1 a4 σ) fun x1 τ2 => zld 1 a2 a4 τ2 fun x3 => if x1 = x3 then f_L_chooses_262  n a0 a1 a2 a3 (w32 (a4 + 1)) τ2 else (some (.inl 0, τ2))) else (f_L_chooses_290  a0 a1 a2 a3 σ)

noncomputable def f_L_chooses_259  (a0 a1 a2 a3 : Int) (σ : zS) : zFn := f_L_chooses_262  zFU a0 a1 a2 a3 0 σ

noncomputable def f_L_chooses_251 (r21 : Int → Int → Int → Int → Int → zS → zFn) (a0 a1 a2 a4 s0 s1 : Int) (σ : zS) : zFn := r21 a0 a1 a2 (w32 (s0 + s1)) (w32 (a4 + 1)) σ

noncomputable def f_L_chooses_250 (r21 : Int → Int → Int → Int → Int → zS → zFn) (a0 a1 a2 a4 s0 : Int) (σ : zS) : zFn := f_L_chooses_251 r21 a0 a1 a2 a4 s0 0 σ

noncomputable def f_L_chooses_246 (r21 : Int → Int → Int → Int → Int → zS → zFn) (a0 a1 a2 a4 s0 : Int) (σ : zS) : zFn := f_L_chooses_251 r21 a0 a1 a2 a4 s0 1 σ

noncomputable def f_L_chooses_213 (r21 : Int → Int → Int → Int → Int → zS → zFn) (a0 a1 a2 a3 a4 a5 a6 a7 : Int) (σ : zS) : zFn := zob 7 a0 σ (zbn (f_X7_own a0 a1 a4 σ) fun x1 τ2 => if x1 = a7 then if a7 < 0 then if 0 < a5 then f_L_chooses_246 r21 a0 a1 a2 a4 a3 τ2 else if a6 < 999 then f_L_chooses_246 r21 a0 a1 a2 a4 a3 τ2 else (f_L_chooses_250 r21 a0 a1 a2 a4 a3 τ2) else (f_L_chooses_250 r21 a0 a1 a2 a4 a3 τ2) else (some (.inl 0, τ2)))

noncomputable def f_L_chooses_205 (r21 : Int → Int → Int → Int → Int → zS → zFn) (r163 : Int → Int → Int → Int → Int → Int → Int → Int → Int → zS → zFn) (a0 a1 a2 a3 a4 a5 a6 a8 s0 : Int) (σ : zS) : zFn := r163 a0 a1 a2 a3 a4 a5 a6 s0 (w32 (a8 + 1)) σ

noncomputable def f_L_chooses_203 (r21 : Int → Int → Int → Int → Int → zS → zFn) (r163 : Int → Int → Int → Int → Int → Int → Int → Int → Int → zS → zFn) (a0 a1 a2 a3 a4 a5 a6 a7 a8 : Int) (σ : zS) : zFn := f_L_chooses_205 r21 r163 a0 a1 a2 a3 a4 a5 a6 a8 a7 σ

noncomputable def f_L_chooses_163 (r21 : Int → Int → Int → Int → Int → zS → zFn) : Nat → Int → Int → Int → Int → Int → Int → Int → Int → Int → zS → zFn
  | 0, _, _, _, _, _, _, _, _, _, _ => none
  | n + 1, a0, a1, a2, a3, a4, a5, a6, a7, a8, σ => zob 7 a0 σ (zbn (f_X7_reports a0 a1 σ) fun x1 τ2 => if a8 < x1 then zob 7 a0 τ2 (zbn (f_X7_report a0 a1 a8 0 τ2) fun x3 τ4 => if x3 = a1 then zob 7 a0 τ4 (zbn (f_X7_report a0 a1 a8 3 τ4) fun x5 τ6 => if x5 = a4 then f_L_chooses_205 r21 (f_L_chooses_163 r21 n) a0 a1 a2 a3 a4 a5 a6 a8 a8 τ6 else (f_L_chooses_203 r21 (f_L_chooses_163 r21 n) a0 a1 a2 a3 a4 a5 a6 a7 a8 τ6)) else (f_L_chooses_203 r21 (f_L_chooses_163 r21 n) a0 a1 a2 a3 a4 a5 a6 a7 a8 τ4)) else (f_L_chooses_213 r21 a0 a1 a2 a3 a4 a5 a6 a7 τ2))

noncomputable def f_L_chooses_156 (r21 : Int → Int → Int → Int → Int → zS → zFn) (a0 a1 a2 a3 a4 a5 a6 s0 s1 s2 : Int) (σ : zS) : zFn := zsi 1 s0 s1 s2 σ fun τ1 => f_L_chooses_163 r21 zFU a0 a1 a2 a3 a4 a5 a6 (-1) 0 τ1

noncomputable def f_L_chooses_148 (r21 : Int → Int → Int → Int → Int → zS → zFn) (a0 a1 a2 a3 a4 a5 a6 s0 s1 : Int) (σ : zS) : zFn := f_L_chooses_156 r21 a0 a1 a2 a3 a4 a5 a6 s0 s1 a4 σ

noncomputable def f_L_chooses_112 (r21 : Int → Int → Int → Int → Int → zS → zFn) (a0 a1 a2 a3 a4 a5 a6 s0 s1 s2 : Int) (σ : zS) : zFn := zsi 1 s0 s1 s2 σ fun τ1 => zld 1 a2 2 τ1 fun x2 => if x2 < 0 then f_L_chooses_148 r21 a0 a1 a2 a3 a4 a5 a6 a2 2 τ1 else (zld 1 a2 2 τ1 fun x3 => zob 7 a0 τ1 (zbn (f_X7_belief a0 a1 x3 0 τ1) fun x4 τ5 => zld 1 a2 2 τ5 fun x6 => zob 7 a0 τ5 (zbn (f_X7_belief a0 a1 x6 1 τ5) fun x7 τ8 => if (w32 (a5 + a6)) < (w32 (x4 + x7)) then f_L_chooses_148 r21 a0 a1 a2 a3 a4 a5 a6 a2 2 τ8 else (zld 1 a2 2 τ8 fun x9 => f_L_chooses_156 r21 a0 a1 a2 a3 a4 a5 a6 a2 2 x9 τ8))))

noncomputable def f_L_chooses_104 (r21 : Int → Int → Int → Int → Int → zS → zFn) (a0 a1 a2 a3 a4 a5 a6 s0 s1 : Int) (σ : zS) : zFn := f_L_chooses_112 r21 a0 a1 a2 a3 a4 a5 a6 s0 s1 a4 σ

noncomputable def f_L_chooses_81 (r21 : Int → Int → Int → Int → Int → zS → zFn) (a0 a1 a2 a3 a4 a5 a6 s0 s1 s2 : Int) (σ : zS) : zFn := zsi 1 s0 s1 s2 σ fun τ1 => zld 1 a2 1 τ1 fun x2 => if x2 < 0 then f_L_chooses_104 r21 a0 a1 a2 a3 a4 a5 a6 a2 1 τ1 else (zld 1 a2 1 τ1 fun x3 => zob 7 a0 τ1 (zbn (f_X7_belief a0 a1 x3 0 τ1) fun x4 τ5 => if a5 < x4 then f_L_chooses_104 r21 a0 a1 a2 a3 a4 a5 a6 a2 1 τ5 else (zld 1 a2 1 τ5 fun x6 => f_L_chooses_112 r21 a0 a1 a2 a3 a4 a5 a6 a2 1 x6 τ5)))

noncomputable def f_L_chooses_73 (r21 : Int → Int → Int → Int → Int → zS → zFn) (a0 a1 a2 a3 a4 a5 a6 s0 s1 : Int) (σ : zS) : zFn := f_L_chooses_81 r21 a0 a1 a2 a3 a4 a5 a6 s0 s1 a4 σ

noncomputable def f_L_chooses_21  : Nat → Int → Int → Int → Int → Int → zS → zFn
  | 0, _, _, _, _, _, _ => none
  | n + 1, a0, a1, a2, a3, a4, σ => zob 7 a0 σ (zbn (f_X7_property a0 1 σ) fun x1 τ2 => if a4 < x1 then zob 7 a0 τ2 (zbn (f_X7_belief a0 a1 a4 0 τ2) fun x3 τ4 => zob 7 a0 τ4 (zbn (f_X7_belief a0 a1 a4 1 τ4) fun x5 τ6 => zld 1 a2 0 τ6 fun x7 => if x7 < 0 then f_L_chooses_73 (f_L_chooses_21  n) a0 a1 a2 a3 a4 x3 x5 a2 0 τ6 else (zld 1 a2 0 τ6 fun x8 => zob 7 a0 τ6 (zbn (f_X7_belief a0 a1 x8 1 τ6) fun x9 τ10 => if x5 < x9 then f_L_chooses_73 (f_L_chooses_21  n) a0 a1 a2 a3 a4 x3 x5 a2 0 τ10 else (zld 1 a2 0 τ10 fun x11 => f_L_chooses_81 (f_L_chooses_21  n) a0 a1 a2 a3 a4 x3 x5 a2 0 x11 τ10))))) else (f_L_chooses_259  a0 a1 a2 a3 τ2))

noncomputable def f_L_chooses  (a0 a1 : Int) (σ : zS) : zFn := zna 1 3 3 σ fun x1 τ2 => zsi 1 x1 0 (-1) τ2 fun τ3 => zsi 1 x1 1 (-1) τ3 fun τ4 => zsi 1 x1 2 (-1) τ4 fun τ5 => f_L_chooses_21  zFU a0 a1 x1 0 0 τ5

noncomputable def f_L_commons_267 (r159 : Int → Int → zS → zFn) (a0 a1 : Int) (σ : zS) : zFn := r159 a0 (w32 (a1 + 1)) σ

noncomputable def f_L_commons_249 (r159 : Int → Int → zS → zFn) (r170 : Int → Int → Int → zS → zFn) (a0 a1 a2 a3 : Int) (σ : zS) : zFn := zob 7 a0 σ (zbn (f_X7_agreeing a0 a1 a2 σ) fun x1 τ2 => if x1 = a3 then r170 a0 a1 (w32 (a2 + 1)) τ2 else (some (.inl 0, τ2)))

noncomputable def f_L_commons_241 (r159 : Int → Int → zS → zFn) (r170 : Int → Int → Int → zS → zFn) (r184 : Int → Int → Int → Int → Int → zS → zFn) (a0 a1 a2 a4 s0 s1 : Int) (σ : zS) : zFn := r184 a0 a1 a2 (w32 (s0 + s1)) (w32 (a4 + 1)) σ

noncomputable def f_L_commons_184 (r159 : Int → Int → zS → zFn) (r170 : Int → Int → Int → zS → zFn) : Nat → Int → Int → Int → Int → Int → zS → zFn
  | 0, _, _, _, _, _, _ => none
  | n + 1, a0, a1, a2, a3, a4, σ => zob 7 a0 σ (zbn (f_X7_property a0 1 σ) fun x1 τ2 => if a4 < x1 then zob 7 a0 τ2 (zbn (f_X7_belief a0 a1 a4 0 τ2) fun x3 τ4 => zob 7 a0 τ4 (zbn (f_X7_belief a0 a2 a4 0 τ4) fun x5 τ6 => zob 7 a0 τ6 (zbn (f_X7_belief a0 a1 a4 1 τ6) fun x7 τ8 => zob 7 a0 τ8 (zbn (f_X7_belief a0 a2 a4 1 τ8) fun x9 τ10 => if (min x7 x9) < (max x3 x5) then f_L_commons_241 r159 r170 (f_L_commons_184 r159 r170 n) a0 a1 a2 a4 a3 0 τ10 else (f_L_commons_241 r159 r170 (f_L_commons_184 r159 r170 n) a0 a1 a2 a4 a3 1 τ10))))) else (f_L_commons_249 r159 r170 a0 a1 a2 a3 τ2))

noncomputable def f_L_commons_170 (r159 : Int → Int → zS → zFn) : Nat → Int → Int → Int → zS → zFn
  | 0, _, _, _, _ => none
  | n + 1, a0, a1, a2, σ => zob 7 a0 σ (zbn (f_X7_property a0 0 σ) fun x1 τ2 => if a2 < x1 then f_L_commons_184 r159 (f_L_commons_170 r159 n) zFU a0 a1 a2 0 0 τ2 else (f_L_commons_267 r159 a0 a1 τ2))

noncomputable def f_L_commons_159  : Nat → Int → Int → zS → zFn
  | 0, _, _, _ => none
  | n + 1, a0, a1, σ => zob 7 a0 σ (zbn (f_X7_property a0 0 σ) fun x1 τ2 => if a1 < x1 then f_L_commons_170 (f_L_commons_159  n) zFU a0 a1 0 τ2 else (some (.inl 1, τ2)))

noncomputable def f_L_commons_157  (a0 : Int) (σ : zS) : zFn := f_L_commons_159  zFU a0 0 σ

noncomputable def f_L_commons_146 (r2 : Int → Int → zS → zFn) (a0 a1 s0 s1 : Int) (σ : zS) : zFn := if s0 = s1 then r2 a0 (w32 (a1 + 1)) σ else (some (.inl 0, σ))

noncomputable def f_L_commons_127 (r2 : Int → Int → zS → zFn) (a0 a1 a3 a4 s0 s1 : Int) (σ : zS) : zFn := if s0 = s1 then zob 7 a0 σ (zbn (f_X7_common a0 a1 1 σ) fun x1 τ2 => if a4 = 0 then f_L_commons_146 r2 a0 a1 x1 (-1) τ2 else (f_L_commons_146 r2 a0 a1 x1 a3 τ2)) else (some (.inl 0, σ))

noncomputable def f_L_commons_109 (r2 : Int → Int → zS → zFn) (a0 a1 a2 a3 s0 : Int) (σ : zS) : zFn := zob 7 a0 σ (zbn (f_X7_common a0 a1 0 σ) fun x1 τ2 => if s0 = 0 then f_L_commons_127 r2 a0 a1 a3 s0 x1 (-1) τ2 else (f_L_commons_127 r2 a0 a1 a3 s0 x1 a2 τ2))

noncomputable def f_L_commons_108 (r2 : Int → Int → zS → zFn) (a0 a1 a2 a3 : Int) (σ : zS) : zFn := f_L_commons_109 r2 a0 a1 a2 a3 0 σ

noncomputable def f_L_commons_95 (r2 : Int → Int → zS → zFn) (a0 a1 a2 a3 : Int) (σ : zS) : zFn := if a2 < 0 then f_L_commons_108 r2 a0 a1 a2 a3 σ else if a3 < a2 then f_L_commons_108 r2 a0 a1 a2 a3 σ else (f_L_commons_109 r2 a0 a1 a2 a3 1 σ)

noncomputable def f_L_commons_89 (r2 : Int → Int → zS → zFn) (r20 : Int → Int → Int → Int → Int → zS → zFn) (a0 a1 a2 a3 a4 : Int) (σ : zS) : zFn := r20 a0 a1 a2 a3 (w32 (a4 + 1)) σ

noncomputable def f_L_commons_20 (r2 : Int → Int → zS → zFn) : Nat → Int → Int → Int → Int → Int → zS → zFn
  | 0, _, _, _, _, _, _ => none
  | n + 1, a0, a1, a2, a3, a4, σ => zob 7 a0 σ (zbn (f_X7_property a0 0 σ) fun x1 τ2 => if a4 < x1 then zob 7 a0 τ2 (zbn (f_X7_own a0 a4 a1 τ2) fun x3 τ4 => if x3 < 0 then f_L_commons_89 r2 (f_L_commons_20 r2 n) a0 a1 a2 a3 a4 τ4 else (zbn (f_L_drift a0 a4 x3 τ4) fun x5 τ6 => zbn (f_L_low a0 a4 x3 x5 τ6) fun x7 τ8 => zbn (f_L_drift a0 a4 x3 τ8) fun x9 τ10 => zbn (f_L_top a0 a4 x3 x9 τ10) fun x11 τ12 => f_L_commons_89 r2 (f_L_commons_20 r2 n) a0 a1 (max a2 x7) (min a3 x11) a4 τ12)) else (f_L_commons_95 r2 a0 a1 a2 a3 τ2))

noncomputable def f_L_commons_2  : Nat → Int → Int → zS → zFn
  | 0, _, _, _ => none
  | n + 1, a0, a1, σ => zob 7 a0 σ (zbn (f_X7_property a0 1 σ) fun x1 τ2 => if a1 < x1 then f_L_commons_20 (f_L_commons_2  n) zFU a0 a1 (-1) 999 0 τ2 else (f_L_commons_157  a0 τ2))

noncomputable def f_L_commons  (a0 : Int) (σ : zS) : zFn := f_L_commons_2  zFU a0 0 σ

noncomputable def f_L_holds_55  (a0 : Int) (σ : zS) : zFn := zbn (f_L_commons a0 σ) fun x1 τ2 => if x1 = 0 ∨ x1 = 1 then some (.inl x1, τ2) else none

noncomputable def f_L_holds_39 (r2 : Int → Int → zS → zFn) (a0 a1 : Int) (σ : zS) : zFn := zbn (f_L_chooses a0 a1 σ) fun x1 τ2 => if x1 = 0 then some (.inl 0, τ2) else (r2 a0 (w32 (a1 + 1)) τ2)

noncomputable def f_L_holds_13 (r2 : Int → Int → zS → zFn) : Nat → Int → Int → Int → zS → zFn
  | 0, _, _, _, _ => none
  | n + 1, a0, a1, a2, σ => zob 7 a0 σ (zbn (f_X7_property a0 1 σ) fun x1 τ2 => if a2 < x1 then zbn (f_L_believes a0 a1 a2 τ2) fun x3 τ4 => if x3 = 0 then some (.inl 0, τ4) else (f_L_holds_13 r2 n a0 a1 (w32 (a2 + 1)) τ4) else (f_L_holds_39 r2 a0 a1 τ2))

noncomputable def f_L_holds_2  : Nat → Int → Int → zS → zFn
  | 0, _, _, _ => none
  | n + 1, a0, a1, σ => zob 7 a0 σ (zbn (f_X7_property a0 0 σ) fun x1 τ2 => if a1 < x1 then f_L_holds_13 (f_L_holds_2  n) 7 a0 a1 0 τ2 else (f_L_holds_55  a0 τ2))

noncomputable def f_L_holds  (a0 : Int) (σ : zS) : zFn := f_L_holds_2  7 a0 0 σ

noncomputable def f_L_law_28 (g : zF)  : Nat → Int → Int → Int → zS → zFn
  | 0, _, _, _, _ => none
  | n + 1, a0, a1, a2, σ => if a2 < 164 then zbn (f_L_act g a1 a0 a2 σ) fun x1 τ2 => zbn (f_L_holds a1 τ2) fun x3 τ4 => if x3 = 0 then some (.inl 0, τ4) else (f_L_law_28 g  n a0 a1 (w32 (a2 + 6)) τ4) else (some (.inl 1, σ))

noncomputable def f_L_law (g : zF)  (a0 : Int) (σ : zS) : zFn := znw σ (0, 7) fun x1 τ2 => if 0 ≤ x1 then zbn (f_X7_init x1 τ2) fun _ τ4 => zbn (f_L_load g x1 a0 τ4) fun x5 τ6 => if x5 = 0 then some (.inl 0, τ6) else (zbn (f_L_holds x1 τ6) fun x7 τ8 => if x7 = 0 then some (.inl 0, τ8) else (f_L_law_28 g  15 a0 x1 80 τ8)) else none

