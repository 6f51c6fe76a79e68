section AWT
variable {g : Cx} {own : String} {cc : ByteArray} {nL d mc ms pc k n : Nat} {L L' : List (Nat × Value)} {st : List Value} {σ σ' : SS}
theorem aw_throwIA {j is : Nat} {tx : String} (hG : Gd g "FloatTexts" cc nL d 1 6) (hd7 : 7 ≤ d) (hT9 : FinT g wIA σ) (hj : sxR[j]? = some ("FloatTexts", is, tx)) (d0 : decode cc pc = .ok (.new 66, 3)) (d3 : decode cc (pc + 3) = .ok (.dup, 1)) (d4 : decode cc (pc + 4) = .ok (.ldc is, 2)) (d6 : decode cc (pc + 6) = .ok (.invokespecial 70, 3)) (d9 : decode cc (pc + 9) = .ok (.athrow, 1)) : AW g pc L [] σ 0 0 := by
  obtain ⟨⟨p, l, e, R, s⟩, ⟨m, args, below, meth, c⟩, w, N, Q⟩ := g
  obtain ⟨hx, hb, hml, hN, hown, hts, hlk, hK, hC, hNs, hsz, hR⟩ := hG
  intro H locs ls hP hS hl
  obtain ⟨hst9, htab, Qc, XC, hQ, hXC⟩ := hT9
  dsimp only [cxw, cxs] at *
  subst hQ
  exact vx_throwS (names := wNm) (A := wA w) (sa := wad w (40 + j)) hx hb hst9 hown (by decide +kernel) (by decide +kernel) (hts _ tcIA.1) (hts _ tcIA.2) (hNs.1 j _ hj) (vx_hat (fun w h => hts w (thIA w h)) tbIA (vx_c (va_Nw.use rfl hNs.2.2.2.1) (vx_c (va_Nw.use rfl hNs.2.2.2.2.2.1) (vx_c (va_Nw.use rfl hNs.2.2.2.2.2.2.1) (vx_c (va_Nw.use rfl hNs.2.2.2.2.2.2.2) vx_n))))) tgIA hC.2.2.2.2.2.2.2.2.2.2.1 hC.2.2.2.2.2.2.2.2.2.2.2.1 hS (by rw [hl.1, hml, hN]) d0 d3 d4 d6 d9 (fun x hx => (htab x hx).elim) (by show 2 + 3 < _; omega) (by show 0 + (13 * 3 + 43) ≤ _; omega) (by omega) (by omega) hlk (fun t hA h1 h2 => hXC t (pqk hP h1 h2) ⟨Nat.le_trans hS.1 h1, fun q hq hn => by rw [h2 q (Nat.lt_of_lt_of_le hq hS.1)]; exact hS.2.1 q hq hn⟩) hS.2.2 (Nat.le_refl _) (Nat.le_refl _)
theorem aw_throwIAW {j is : Nat} {tx : String} (hG : Gd g "FloatTexts" cc nL d 1 6) (hd7 : 7 ≤ d) (hT9 : FinT g wIA σ) (hj : sxR[j]? = some ("FloatTexts", is, tx)) (d0 : decode cc pc = .ok (.new 66, 3)) (d3 : decode cc (pc + 3) = .ok (.dup, 1)) (d4 : decode cc (pc + 4) = .ok (.ldc_w is, 3)) (d6 : decode cc (pc + 7) = .ok (.invokespecial 70, 3)) (d9 : decode cc (pc + 10) = .ok (.athrow, 1)) : AW g pc L [] σ 0 0 := by
  obtain ⟨⟨p, l, e, R, s⟩, ⟨m, args, below, meth, c⟩, w, N, Q⟩ := g
  obtain ⟨hx, hb, hml, hN, hown, hts, hlk, hK, hC, hNs, hsz, hR⟩ := hG
  intro H locs ls hP hS hl
  obtain ⟨hst9, htab, Qc, XC, hQ, hXC⟩ := hT9
  dsimp only [cxw, cxs] at *
  subst hQ
  exact vx_throwSW (names := wNm) (A := wA w) (sa := wad w (40 + j)) hx hb hst9 hown (by decide +kernel) (by decide +kernel) (hts _ tcIA.1) (hts _ tcIA.2) (hNs.1 j _ hj) (vx_hat (fun w h => hts w (thIA w h)) tbIA (vx_c (va_Nw.use rfl hNs.2.2.2.1) (vx_c (va_Nw.use rfl hNs.2.2.2.2.2.1) (vx_c (va_Nw.use rfl hNs.2.2.2.2.2.2.1) (vx_c (va_Nw.use rfl hNs.2.2.2.2.2.2.2) vx_n))))) tgIA hC.2.2.2.2.2.2.2.2.2.2.1 hC.2.2.2.2.2.2.2.2.2.2.2.1 hS (by rw [hl.1, hml, hN]) d0 d3 d4 d6 d9 (fun x hx => (htab x hx).elim) (by show 2 + 3 < _; omega) (by show 0 + (13 * 3 + 43) ≤ _; omega) (by omega) (by omega) hlk (fun t hA h1 h2 => hXC t (pqk hP h1 h2) ⟨Nat.le_trans hS.1 h1, fun q hq hn => by rw [h2 q (Nat.lt_of_lt_of_le hq hS.1)]; exact hS.2.1 q hq hn⟩) hS.2.2 (Nat.le_refl _) (Nat.le_refl _)
theorem aw_throwIO {j is : Nat} {tx : String} (hG : Gd g "FloatTexts" cc nL d 1 6) (hd7 : 7 ≤ d) (hT9 : FinT g wIO σ) (hj : sxR[j]? = some ("FloatTexts", is, tx)) (d0 : decode cc pc = .ok (.new 185, 3)) (d3 : decode cc (pc + 3) = .ok (.dup, 1)) (d4 : decode cc (pc + 4) = .ok (.ldc is, 2)) (d6 : decode cc (pc + 6) = .ok (.invokespecial 189, 3)) (d9 : decode cc (pc + 9) = .ok (.athrow, 1)) : AW g pc L [] σ 0 0 := by
  obtain ⟨⟨p, l, e, R, s⟩, ⟨m, args, below, meth, c⟩, w, N, Q⟩ := g
  obtain ⟨hx, hb, hml, hN, hown, hts, hlk, hK, hC, hNs, hsz, hR⟩ := hG
  intro H locs ls hP hS hl
  obtain ⟨hst9, htab, Qc, XC, hQ, hXC⟩ := hT9
  dsimp only [cxw, cxs] at *
  subst hQ
  exact vx_throwS (names := wNm) (A := wA w) (sa := wad w (40 + j)) hx hb hst9 hown (by decide +kernel) (by decide +kernel) (hts _ tcIO.1) (hts _ tcIO.2) (hNs.1 j _ hj) (vx_hat (fun w h => hts w (thIO w h)) tbIO (vx_c (va_Nw.use rfl hNs.2.2.2.2.1) (vx_c (va_Nw.use rfl hNs.2.2.2.2.2.1) (vx_c (va_Nw.use rfl hNs.2.2.2.2.2.2.1) (vx_c (va_Nw.use rfl hNs.2.2.2.2.2.2.2) vx_n))))) tgIO hC.2.2.2.2.2.2.2.2.2.2.1 hC.2.2.2.2.2.2.2.2.2.2.2.1 hS (by rw [hl.1, hml, hN]) d0 d3 d4 d6 d9 (fun x hx => (htab x hx).elim) (by show 2 + 3 < _; omega) (by show 0 + (13 * 3 + 43) ≤ _; omega) (by omega) (by omega) hlk (fun t hA h1 h2 => hXC t (pqk hP h1 h2) ⟨Nat.le_trans hS.1 h1, fun q hq hn => by rw [h2 q (Nat.lt_of_lt_of_le hq hS.1)]; exact hS.2.1 q hq hn⟩) hS.2.2 (Nat.le_refl _) (Nat.le_refl _)
theorem aw_throwIOW {j is : Nat} {tx : String} (hG : Gd g "FloatTexts" cc nL d 1 6) (hd7 : 7 ≤ d) (hT9 : FinT g wIO σ) (hj : sxR[j]? = some ("FloatTexts", is, tx)) (d0 : decode cc pc = .ok (.new 185, 3)) (d3 : decode cc (pc + 3) = .ok (.dup, 1)) (d4 : decode cc (pc + 4) = .ok (.ldc_w is, 3)) (d6 : decode cc (pc + 7) = .ok (.invokespecial 189, 3)) (d9 : decode cc (pc + 10) = .ok (.athrow, 1)) : AW g pc L [] σ 0 0 := by
  obtain ⟨⟨p, l, e, R, s⟩, ⟨m, args, below, meth, c⟩, w, N, Q⟩ := g
  obtain ⟨hx, hb, hml, hN, hown, hts, hlk, hK, hC, hNs, hsz, hR⟩ := hG
  intro H locs ls hP hS hl
  obtain ⟨hst9, htab, Qc, XC, hQ, hXC⟩ := hT9
  dsimp only [cxw, cxs] at *
  subst hQ
  exact vx_throwSW (names := wNm) (A := wA w) (sa := wad w (40 + j)) hx hb hst9 hown (by decide +kernel) (by decide +kernel) (hts _ tcIO.1) (hts _ tcIO.2) (hNs.1 j _ hj) (vx_hat (fun w h => hts w (thIO w h)) tbIO (vx_c (va_Nw.use rfl hNs.2.2.2.2.1) (vx_c (va_Nw.use rfl hNs.2.2.2.2.2.1) (vx_c (va_Nw.use rfl hNs.2.2.2.2.2.2.1) (vx_c (va_Nw.use rfl hNs.2.2.2.2.2.2.2) vx_n))))) tgIO hC.2.2.2.2.2.2.2.2.2.2.1 hC.2.2.2.2.2.2.2.2.2.2.2.1 hS (by rw [hl.1, hml, hN]) d0 d3 d4 d6 d9 (fun x hx => (htab x hx).elim) (by show 2 + 3 < _; omega) (by show 0 + (13 * 3 + 43) ≤ _; omega) (by omega) (by omega) hlk (fun t hA h1 h2 => hXC t (pqk hP h1 h2) ⟨Nat.le_trans hS.1 h1, fun q hq hn => by rw [h2 q (Nat.lt_of_lt_of_le hq hS.1)]; exact hS.2.1 q hq hn⟩) hS.2.2 (Nat.le_refl _) (Nat.le_refl _)
end AWT
