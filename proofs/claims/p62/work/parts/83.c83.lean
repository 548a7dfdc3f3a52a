/-! C 83: a text is read -/
section C83
variable {S S' S2 : zG} {μ μ' μ1 μ2 : zM} {x m B A A2 : Int} {M M' X : zD} {L L' : List zD} {K : zKs} {l inp out inp' : List Int} {c p c2 p2 : Int} {t : zTk} {Q : zR × zS → Prop}
theorem W7.lod (h : W7 S μ x M L K inp out c p) (f : ∀ y, (y < x + 37 ∨ x + 63 ≤ y) → y ≠ x + 1 → μ' y = μ y) (hl : LBy μ' inp' (x + 1) 1 (x + 2)) (hn : inp'.length ≤ 600) (he : μ' (x + 45) 1 = 0) (hc : μ' (x + 62) 6 = c2) (hp : μ' (x + 62) 7 = p2) : W7 S μ' x M L K inp' out c2 p2 := by
  obtain ⟨r, hr⟩ := h.H
  have hx := h.C.x0
  exact W7.mk ⟨h.C, h.D.keep (fun y h1 h2 => f y (by omega) (by omega)), h.ts, he, ⟨r, hr.keep (fun y hy => f y (by omega) (by omega))⟩, h.bi, hl, h.bo, h.lo.keep (by rw [f _ (by omega) (by omega)]) (fun k => by rw [f _ (by omega) (by omega)]), h.po, h.p0, h.p1, hc, hp, hn, h.ol⟩
end C83
