/-! ALL that is alike on both sides, and count -/
def rAll (σx σm : jS) : Prop := ∃ ch V nb, rN σx σm ch V ∧ rC σx σm ch ∧ rLw σx σm ∧ rTp σx σm ∧ dR σx σm ch 37 27 ∧ rI σx σm ch ∧ rLn σx ∧ rS σx σm nb ∧ rB σx σm nb
theorem eq_count {σx σm : jS} (h : rAll σx σm) (p : Int32) : ∃ r, fX11_count σx p = some r ∧ fX12_count σm p = some r := by
  obtain ⟨ch, V, nb, ⟨hx, hm, hg⟩, ⟨dn, al, c1, c2, c3, c4, c5, c6, c7⟩, hlw, ⟨W, t, hT, a, b, b2⟩, hd, hi, hl, hs, hb⟩ := h
  unfold fX11_count fX12_count
  obtain ⟨h0, h1, h2, h3, tr, t0, t1, t2, t3⟩ := hb
  rw [hx.2.1, hm.2.1, a.1, b, c3, c5, h1, h2, t1, t2]
  by_cases z0 : p = (0 : Int32)
  · rw [if_pos z0]; exact ⟨_, rfl, rfl⟩
  · rw [if_neg z0]
    by_cases z1 : p = (1 : Int32)
    · rw [if_pos z1]; exact ⟨_, rfl, rfl⟩
    · rw [if_neg z1]
      by_cases z2 : p = (2 : Int32)
      · rw [if_pos z2]; exact ⟨_, rfl, rfl⟩
      · rw [if_neg z2]
        by_cases z3 : p = (3 : Int32)
        · rw [if_pos z3]; exact ⟨_, rfl, rfl⟩
        · rw [if_neg z3]
          by_cases z4 : p = (4 : Int32)
          · rw [if_pos z4]; exact ⟨_, rfl, rfl⟩
          · rw [if_neg z4]; exact ⟨_, rfl, rfl⟩
theorem fr_N {σx σm σx' σm' : jS} {ch : Nat} {V : Nat → Nat → Int32} (h : rN σx σm ch V) (a : ∀ c, c = 1 ∨ c = 2 → σx'.1 c = σx.1 c) (b : ∀ c, 1 ≤ c → c ≤ 7 → σm'.1 c = σm.1 c) (f : ∀ k, k = 2 ∨ k = 9 ∨ k = 10 ∨ k = 11 ∨ k = 12 → σm'.1 0 k = σm.1 0 k) : rN σx' σm' ch V := by
  obtain ⟨hx, hm, hg⟩ := h
  refine ⟨⟨hx.1, ?_, fun w n hk => ?_⟩, ⟨hm.1, ?_, fun w n hk => ?_⟩, hg⟩
  · rw [a 1 (by omega)]; exact hx.2.1
  · rw [a 2 (by omega)]; exact hx.2.2 w n hk
  · rw [f 2 (by omega)]; exact hm.2.1
  · rw [← hm.2.2 w n hk]
    unfold jmv
    split
    · rw [b 2 (by omega) (by omega)]
    · rw [b 3 (by omega) (by omega)]
    · rw [b 4 (by omega) (by omega)]
    · rw [b 5 (by omega) (by omega)]
    · rw [b 6 (by omega) (by omega)]
    · rw [b 7 (by omega) (by omega)]
    · rw [b 1 (by omega) (by omega)]
    · rw [f 9 (by omega)]
    · rw [f 10 (by omega)]
    · rw [f 11 (by omega)]
    · rw [f 12 (by omega)]
theorem fr_C {σx σm σx' σm' : jS} {ch ch' : Nat} (h : rC σx σm ch) (hc : ch ≤ ch') (a : ∀ c, 3 ≤ c → c ≤ 6 → σx'.1 c = σx.1 c) (b : ∀ c, 8 ≤ c → c ≤ 11 → σm'.1 c = σm.1 c) (f : ∀ k, k = 13 ∨ k = 14 → σm'.1 0 k = σm.1 0 k) : rC σx' σm' ch' := by
  obtain ⟨dn, al, c1, c2, c3, c4, c5, c6, c7⟩ := h
  refine ⟨dn, al, c1, c2, ?_, ?_, ?_, ?_, fun i hi => ?_⟩
  · rw [a 3 (by omega) (by omega)]; exact c3
  · rw [a 3 (by omega) (by omega)]; exact c4
  · rw [f 13 (by omega)]; exact c5
  · rw [f 14 (by omega)]; exact c6
  · obtain ⟨w, n, k1, k2, k3, k4, k5, k6, k7, k8⟩ := c7 i hi
    unfold cE
    rw [a 4 (by omega) (by omega), a 5 (by omega) (by omega), a 6 (by omega) (by omega), b 8 (by omega) (by omega), b 9 (by omega) (by omega), b 10 (by omega) (by omega), b 11 (by omega) (by omega)]
    exact ⟨w, n, jok_mono k1 hc, k2, k3, k4, k5, k6, goodV_mono k7 hc, goodV_mono k8 hc⟩
theorem fr_T {σx σm σx' σm' : jS} (h : rTp σx σm) (a : σx'.1 7 1 = σx.1 7 1) (a8 : σx'.1 8 = σx.1 8) (b : σm'.1 12 = σm.1 12) (f : σm'.1 0 20 = σm.1 0 20) : rTp σx' σm' := by
  unfold rTp at *
  rw [a, a8, b, f]
  exact h
theorem fr_D {σx σm σx' σm' : jS} {ch ch' : Nat} (h : dR σx σm ch 37 27) (hc : ch ≤ ch') (a : ∀ c, c = 37 ∨ c = 38 → σx'.1 c = σx.1 c) (b : σm'.1 27 = σm.1 27) : dR σx' σm' ch' 37 27 := h.cp hc (fun k _ _ => by rw [a 37 (by omega)]) (fun k _ => by rw [a 38 (by omega)]) (fun k _ => by rw [b])
theorem fr_I {σx σm σx' σm' : jS} {ch ch' : Nat} (h : rI σx σm ch) (hc : ch ≤ ch') (a : ∀ c, c = 39 ∨ c = 40 → σx'.1 c = σx.1 c) (a0 : σx'.1 0 11 = σx.1 0 11) (b : σm'.1 28 = σm.1 28) (f : σm'.1 0 48 = σm.1 0 48) : rI σx' σm' ch' := by
  rcases h with ⟨h1, h2⟩ | ⟨h1, h2, h3⟩
  · exact Or.inl ⟨by rw [a0]; exact h1, by rw [f]; exact h2⟩
  · exact Or.inr ⟨by rw [a0]; exact h1, by rw [f]; exact h2, h3.cp hc (fun k _ _ => by rw [a 39 (by omega)]) (fun k _ => by rw [a 40 (by omega)]) (fun k _ => by rw [b])⟩
theorem fr_Ln {σ σ' : jS} (h : rLn σ) (a : ∀ c, c = 17 ∨ c = 22 ∨ c = 27 → σ'.1 c = σ.1 c) : rLn σ' := fun i hi => by
  rw [a (17 + 5 * i) (by omega)]
  exact h i hi
theorem fr_S {σx σm σx' σm' : jS} {nb nb' : Nat} (h : rS σx σm nb) (hn : nb ≤ nb') (hn2 : nb' ≤ 50) (a : ∀ c, 45 ≤ c → c ≤ 48 → σx'.1 c = σx.1 c) (a2 : σx'.2 = σx.2) (b : ∀ c, c = 31 ∨ c = 32 → σm'.1 c = σm.1 c) (b2 : σm'.2 = σm.2) : rS σx' σm' nb' := by
  refine ⟨hn2, fun s hs => ?_⟩
  have q := h.2 s hs
  unfold shR at *
  rw [a 45 (by omega) (by omega), a 46 (by omega) (by omega), a 47 (by omega) (by omega), a 48 (by omega) (by omega), a2, b 31 (by omega), b 32 (by omega), b2]
  rcases q with q | ⟨k, k1, k2⟩ | q
  · exact Or.inl q
  · exact Or.inr (Or.inl ⟨k, by omega, k2⟩)
  · exact Or.inr (Or.inr q)
theorem fr_B {σx σm σx' σm' : jS} {nb : Nat} (h : rB σx σm nb) (a : ∀ c, 41 ≤ c → c ≤ 43 → σx'.1 c = σx.1 c) (b : ∀ c, c = 29 ∨ c = 30 → σm'.1 c = σm.1 c) (f : ∀ k, k = 49 ∨ k = 51 → σm'.1 0 k = σm.1 0 k) : rB σx' σm' nb := by
  unfold rB at *
  rw [a 41 (by omega) (by omega), a 42 (by omega) (by omega), a 43 (by omega) (by omega), b 29 (by omega), b 30 (by omega), f 49 (by omega), f 51 (by omega)]
  exact h
theorem fr_L {σx σm σx' σm' : jS} (h : rLw σx σm) (a : σx'.1 7 6 = σx.1 7 6) (a10 : σx'.1 10 = σx.1 10) (b : ∀ c, 13 ≤ c → c ≤ 17 → σm'.1 c = σm.1 c) (f : σm'.1 0 32 = σm.1 0 32) : rLw σx' σm' := h.cp a a10 f (by rw [b 15 (by omega) (by omega)]) (fun i _ => by rw [b 13 (by omega) (by omega), b 14 (by omega) (by omega)]; exact ⟨rfl, rfl⟩) (fun i _ => by rw [b 16 (by omega) (by omega), b 17 (by omega) (by omega)]; exact ⟨rfl, rfl⟩)
