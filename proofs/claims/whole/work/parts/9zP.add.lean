/-! The reader: a thing more in the post told so far. -/
theorem Fz.lift {a : Nat} {h g h1 g1 : AH} {C M : Option Res} (q : CQ a h h1) (r : MZ g g1) (f : Fz a h1 g1 C M) : Fz a h g C M := by
  obtain ⟨f, h', g', f0, f1, f2, f3, f4⟩ := f
  exact ⟨f, h', g', f0, f1, f2, q.tr f3, r.tr f4⟩
theorem PR.place {h g h' g' : AH} {a np ny nc ne nw w : Nat} {nm : Int64} (P : PR h g a np ny nc ne nw) (hc : np < 5) (b0 : w ≤ 9999) (e0 : hAI h' (a + 24) = upd (hAI h (a + 24)) np (nI w)) (eo : ∀ k, 2 ≤ k → k ≤ 24 → k ≠ 24 → hAI h' (a + k) = hAI h (a + k)) (en : hAJ h' (a + 1) = vp_updL (hAJ h (a + 1)) (np) nm) (ec : hFI h' 501 a = nI (np + 1)) (eC : ∀ k, 501 ≤ k → k ≤ 505 → k ≠ 501 → hFI h' k a = hFI h k a) (eT : hFI h' 604 3 = hFI h 604 3) (eL : hFI h' 401 (a + 14) = hFI h 401 (a + 14)) (f0 : hAI g' 355 = upd (hAI g 355) (5 + np) (nI w)) (fo : ∀ r, 355 ≤ r → r ≤ 372 → r ≠ 355 → hAI g' r = hAI g r) (fn : hAJ g' 351 = vp_updL (hAJ g 351) (5 + np) nm) (fN : ∀ r, 351 ≤ r → r ≤ 354 → r ≠ 351 → hAJ g' r = hAJ g r) (fc : hAI g' 350 = upd (hAI g 350) 5 (nI (np + 1))) (fL : hFI g' 1233 348 = hFI g 1233 348) : PR h' g' a (np + 1) ny nc ne nw := by
  obtain ⟨⟨k1, k2, k3, k4, k5, j1, j2, j3, j4, j5, l1, l2, l3, l4⟩, ⟨⟨n1, n2, n3, n4⟩, n5, n6, n7, n8⟩, s3, s4, s5, s6, s7, s8, s9⟩ := P
  refine ⟨⟨ec, by rw [eC 502 (by decide) (by decide) (by decide)]; exact k2, by rw [eC 503 (by decide) (by decide) (by decide)]; exact k3, by rw [eC 504 (by decide) (by decide) (by decide)]; exact k4, by rw [eC 505 (by decide) (by decide) (by decide)]; exact k5, by rw [fc, pk_us], by rw [fc, pk_un (by decide)]; exact j2, by rw [fc, pk_un (by decide)]; exact j3, by rw [fc, pk_un (by decide)]; exact j4, by rw [fc, pk_un (by decide)]; exact j5, by omega, l2, l3, l4⟩, ⟨⟨?_, ?_, ?_, ?_⟩, ?_, ?_, ?_, ?_⟩, ?_, ?_, ?_, ?_, ?_, ?_, ?_⟩
  · intro i hi
    rw [en, fn]
    by_cases c : i = np
    · subst c
      rw [pk_uLs, pk_uLs]
    · rw [pk_uLn (by omega), pk_uLn (by omega)]
      exact n1 i (by omega)
  · intro i hi
    rw [en, fN 352 (by decide) (by decide) (by decide), pk_uLn (by omega)]
    exact n2 i hi
  · intro i hi
    rw [en, fN 353 (by decide) (by decide) (by decide), pk_uLn (by omega)]
    exact n3 i hi
  · intro i hi
    rw [en, fN 354 (by decide) (by decide) (by decide), pk_uLn (by omega)]
    exact n4 i hi
  · intro i i1 i2
    rw [en, pk_uLn (by omega)]
    exact n5 i (by omega) i2
  · intro i i1 i2
    rw [en, pk_uLn (by omega)]
    exact n6 i (by omega) i2
  · intro i i1 i2
    rw [en, pk_uLn (by omega)]
    exact n7 i (by omega) i2
  · intro i i1 i2
    rw [en, pk_uLn (by omega)]
    exact n8 i (by omega) i2
  · intro i hi
    by_cases c : i = np
    · subst c
      refine ⟨w, b0, ?_, ?_⟩
      · rw [e0, pk_us]
      · rw [f0, pk_us]
    · exact (s3 i (by omega)).fr (by rw [e0, pk_un (by omega)]) (by rw [f0, pk_un (by omega)])
  · intro i hi
    exact ((s4 i hi).mono (Nat.le_succ np)).fr (fun k hk => by rw [eo k (by omega) (by omega) (by omega)]) (fun r h1 h2 => by rw [fo r (by omega) (by omega) (by omega)])
  · intro i hi
    exact ((s5 i hi).mono (Nat.le_succ np)).fr (fun k hk => by rw [eo k (by omega) (by omega) (by omega)]) (fun r h1 h2 => by rw [fo r (by omega) (by omega) (by omega)])
  · intro i hi
    exact ((s6 i hi)).fr (fun k h1 h2 => by rw [eo k (by omega) (by omega) (by omega)]) (fun r h1 h2 => by rw [fo r (by omega) (by omega) (by omega)])
  · exact (s7.mono (Nat.le_succ np)).fr (by rw [eo 2 (by decide) (by decide) (by decide)]) (by rw [fo 356 (by decide) (by decide) (by decide)])
  · exact s8.fr (by rw [eo 13 (by decide) (by decide) (by decide)]) (by rw [fo 369 (by decide) (by decide) (by decide)])
  · exact s9.fr eT eL (by rw [eo 15 (by decide) (by decide) (by decide)]) (fun r h1 h2 => by rw [fo r (by omega) (by omega) (by omega)]) fL
theorem PR.clock {h g h' g' : AH} {a np ny nc ne nw kd st ho ha sp : Nat} {nm : Int64} (P : PR h g a np ny nc ne nw) (hc : nc < 6) (b0 : kd ≤ 3) (b1 : st < np) (b2 : 1 ≤ ho ∧ ho ≤ 999) (b3 : ha ≤ ho) (b4 : sp ≤ 9) (e0 : hAI h' (a + 4) = upd (hAI h (a + 4)) nc (nI kd)) (e1 : hAI h' (a + 5) = upd (hAI h (a + 5)) nc (nI st)) (e2 : hAI h' (a + 6) = upd (hAI h (a + 6)) nc (nI ho)) (e3 : hAI h' (a + 18) = upd (hAI h (a + 18)) nc (nI ha)) (e4 : hAI h' (a + 7) = upd (hAI h (a + 7)) nc (nI sp)) (eo : ∀ k, 2 ≤ k → k ≤ 24 → k ≠ 4 → k ≠ 5 → k ≠ 6 → k ≠ 18 → k ≠ 7 → hAI h' (a + k) = hAI h (a + k)) (en : hAJ h' (a + 1) = vp_updL (hAJ h (a + 1)) (5 + nc) nm) (ec : hFI h' 503 a = nI (nc + 1)) (eC : ∀ k, 501 ≤ k → k ≤ 505 → k ≠ 503 → hFI h' k a = hFI h k a) (eT : hFI h' 604 3 = hFI h 604 3) (eL : hFI h' 401 (a + 14) = hFI h 401 (a + 14)) (f0 : hAI g' 357 = upd (hAI g 357) (6 + nc) (nI kd)) (f1 : hAI g' 358 = upd (hAI g 358) (6 + nc) (nI st)) (f2 : hAI g' 359 = upd (hAI g 359) (6 + nc) (nI ho)) (f3 : hAI g' 360 = upd (hAI g 360) (6 + nc) (nI ha)) (f4 : hAI g' 361 = upd (hAI g 361) (6 + nc) (nI sp)) (fo : ∀ r, 355 ≤ r → r ≤ 372 → r ≠ 357 → r ≠ 358 → r ≠ 359 → r ≠ 360 → r ≠ 361 → hAI g' r = hAI g r) (fn : hAJ g' 352 = vp_updL (hAJ g 352) (6 + nc) nm) (fN : ∀ r, 351 ≤ r → r ≤ 354 → r ≠ 352 → hAJ g' r = hAJ g r) (fc : hAI g' 350 = upd (hAI g 350) 7 (nI (nc + 1))) (fL : hFI g' 1233 348 = hFI g 1233 348) : PR h' g' a np ny (nc + 1) ne nw := by
  obtain ⟨⟨k1, k2, k3, k4, k5, j1, j2, j3, j4, j5, l1, l2, l3, l4⟩, ⟨⟨n1, n2, n3, n4⟩, n5, n6, n7, n8⟩, s3, s4, s5, s6, s7, s8, s9⟩ := P
  refine ⟨⟨by rw [eC 501 (by decide) (by decide) (by decide)]; exact k1, by rw [eC 502 (by decide) (by decide) (by decide)]; exact k2, ec, by rw [eC 504 (by decide) (by decide) (by decide)]; exact k4, by rw [eC 505 (by decide) (by decide) (by decide)]; exact k5, by rw [fc, pk_un (by decide)]; exact j1, by rw [fc, pk_un (by decide)]; exact j2, by rw [fc, pk_us], by rw [fc, pk_un (by decide)]; exact j4, by rw [fc, pk_un (by decide)]; exact j5, l1, by omega, l3, l4⟩, ⟨⟨?_, ?_, ?_, ?_⟩, ?_, ?_, ?_, ?_⟩, ?_, ?_, ?_, ?_, ?_, ?_, ?_⟩
  · intro i hi
    rw [en, fN 351 (by decide) (by decide) (by decide), pk_uLn (by omega)]
    exact n1 i hi
  · intro i hi
    rw [en, fn]
    by_cases c : i = nc
    · subst c
      rw [pk_uLs, pk_uLs]
    · rw [pk_uLn (by omega), pk_uLn (by omega)]
      exact n2 i (by omega)
  · intro i hi
    rw [en, fN 353 (by decide) (by decide) (by decide), pk_uLn (by omega)]
    exact n3 i hi
  · intro i hi
    rw [en, fN 354 (by decide) (by decide) (by decide), pk_uLn (by omega)]
    exact n4 i hi
  · intro i i1 i2
    rw [en, pk_uLn (by omega)]
    exact n5 i (by omega) i2
  · intro i i1 i2
    rw [en, pk_uLn (by omega)]
    exact n6 i (by omega) i2
  · intro i i1 i2
    rw [en, pk_uLn (by omega)]
    exact n7 i (by omega) i2
  · intro i i1 i2
    rw [en, pk_uLn (by omega)]
    exact n8 i (by omega) i2
  · intro i hi
    exact (s3 i hi).fr (by rw [eo 24 (by decide) (by decide) (by decide) (by decide) (by decide) (by decide) (by decide)]) (by rw [fo 355 (by decide) (by decide) (by decide) (by decide) (by decide) (by decide) (by decide)])
  · intro i hi
    by_cases c : i = nc
    · subst c
      refine ⟨kd, st, ho, ha, sp, b0, b1, b2.1, b2.2, b3, b4, ?_, ?_, ?_, ?_, ?_, ?_, ?_, ?_, ?_, ?_⟩
      · rw [e0, pk_us]
      · rw [f0, pk_us]
      · rw [e1, pk_us]
      · rw [f1, pk_us]
      · rw [e2, pk_us]
      · rw [f2, pk_us]
      · rw [e3, pk_us]
      · rw [f3, pk_us]
      · rw [e4, pk_us]
      · rw [f4, pk_us]
    · refine (s4 i (by omega)).fr ?_ ?_
      · intro k hk
        rcases hk with rfl | rfl | rfl | rfl | rfl
        · rw [e0, pk_un (by omega)]
        · rw [e1, pk_un (by omega)]
        · rw [e2, pk_un (by omega)]
        · rw [e4, pk_un (by omega)]
        · rw [e3, pk_un (by omega)]
      · intro r h1 h2
        rcases (show r = 357 ∨ r = 358 ∨ r = 359 ∨ r = 360 ∨ r = 361 by omega) with rfl | rfl | rfl | rfl | rfl
        · rw [f0, pk_un (by omega)]
        · rw [f1, pk_un (by omega)]
        · rw [f2, pk_un (by omega)]
        · rw [f3, pk_un (by omega)]
        · rw [f4, pk_un (by omega)]
  · intro i hi
    exact ((s5 i hi)).fr (fun k hk => by rw [eo k (by omega) (by omega) (by omega) (by omega) (by omega) (by omega) (by omega)]) (fun r h1 h2 => by rw [fo r (by omega) (by omega) (by omega) (by omega) (by omega) (by omega) (by omega)])
  · intro i hi
    exact ((s6 i hi).mono (Nat.le_succ nc) (Nat.le_refl ne)).fr (fun k h1 h2 => by rw [eo k (by omega) (by omega) (by omega) (by omega) (by omega) (by omega) (by omega)]) (fun r h1 h2 => by rw [fo r (by omega) (by omega) (by omega) (by omega) (by omega) (by omega) (by omega)])
  · exact (s7).fr (by rw [eo 2 (by decide) (by decide) (by decide) (by decide) (by decide) (by decide) (by decide)]) (by rw [fo 356 (by decide) (by decide) (by decide) (by decide) (by decide) (by decide) (by decide)])
  · exact s8.fr (by rw [eo 13 (by decide) (by decide) (by decide) (by decide) (by decide) (by decide) (by decide)]) (by rw [fo 369 (by decide) (by decide) (by decide) (by decide) (by decide) (by decide) (by decide)])
  · exact s9.fr eT eL (by rw [eo 15 (by decide) (by decide) (by decide) (by decide) (by decide) (by decide) (by decide)]) (fun r h1 h2 => by rw [fo r (by omega) (by omega) (by omega) (by omega) (by omega) (by omega) (by omega)]) fL
theorem PR.person {h g h' g' : AH} {a np ny nc ne nw q s w : Nat} {nm : Int64} (P : PR h g a np ny nc ne nw) (hc : ne < 4) (b0 : q < np) (b1 : s ≤ 9) (b2 : w ≤ 999) (e0 : hAI h' (a + 21) = upd (hAI h (a + 21)) ne (nI q)) (e1 : hAI h' (a + 8) = upd (hAI h (a + 8)) ne (nI s)) (e2 : hAI h' (a + 22) = upd (hAI h (a + 22)) ne (nI w)) (eo : ∀ k, 2 ≤ k → k ≤ 24 → k ≠ 21 → k ≠ 8 → k ≠ 22 → hAI h' (a + k) = hAI h (a + k)) (en : hAJ h' (a + 1) = vp_updL (hAJ h (a + 1)) (11 + ne) nm) (ec : hFI h' 504 a = nI (ne + 1)) (eC : ∀ k, 501 ≤ k → k ≤ 505 → k ≠ 504 → hFI h' k a = hFI h k a) (eT : hFI h' 604 3 = hFI h 604 3) (eL : hFI h' 401 (a + 14) = hFI h 401 (a + 14)) (f0 : hAI g' 362 = upd (hAI g 362) (4 + ne) (nI q)) (f1 : hAI g' 363 = upd (hAI g 363) (4 + ne) (nI s)) (f2 : hAI g' 364 = upd (hAI g 364) (4 + ne) (nI w)) (fo : ∀ r, 355 ≤ r → r ≤ 372 → r ≠ 362 → r ≠ 363 → r ≠ 364 → hAI g' r = hAI g r) (fn : hAJ g' 353 = vp_updL (hAJ g 353) (4 + ne) nm) (fN : ∀ r, 351 ≤ r → r ≤ 354 → r ≠ 353 → hAJ g' r = hAJ g r) (fc : hAI g' 350 = upd (hAI g 350) 8 (nI (ne + 1))) (fL : hFI g' 1233 348 = hFI g 1233 348) : PR h' g' a np ny nc (ne + 1) nw := by
  obtain ⟨⟨k1, k2, k3, k4, k5, j1, j2, j3, j4, j5, l1, l2, l3, l4⟩, ⟨⟨n1, n2, n3, n4⟩, n5, n6, n7, n8⟩, s3, s4, s5, s6, s7, s8, s9⟩ := P
  refine ⟨⟨by rw [eC 501 (by decide) (by decide) (by decide)]; exact k1, by rw [eC 502 (by decide) (by decide) (by decide)]; exact k2, by rw [eC 503 (by decide) (by decide) (by decide)]; exact k3, ec, by rw [eC 505 (by decide) (by decide) (by decide)]; exact k5, by rw [fc, pk_un (by decide)]; exact j1, by rw [fc, pk_un (by decide)]; exact j2, by rw [fc, pk_un (by decide)]; exact j3, by rw [fc, pk_us], by rw [fc, pk_un (by decide)]; exact j5, l1, l2, by omega, l4⟩, ⟨⟨?_, ?_, ?_, ?_⟩, ?_, ?_, ?_, ?_⟩, ?_, ?_, ?_, ?_, ?_, ?_, ?_⟩
  · intro i hi
    rw [en, fN 351 (by decide) (by decide) (by decide), pk_uLn (by omega)]
    exact n1 i hi
  · intro i hi
    rw [en, fN 352 (by decide) (by decide) (by decide), pk_uLn (by omega)]
    exact n2 i hi
  · intro i hi
    rw [en, fn]
    by_cases c : i = ne
    · subst c
      rw [pk_uLs, pk_uLs]
    · rw [pk_uLn (by omega), pk_uLn (by omega)]
      exact n3 i (by omega)
  · intro i hi
    rw [en, fN 354 (by decide) (by decide) (by decide), pk_uLn (by omega)]
    exact n4 i hi
  · intro i i1 i2
    rw [en, pk_uLn (by omega)]
    exact n5 i (by omega) i2
  · intro i i1 i2
    rw [en, pk_uLn (by omega)]
    exact n6 i (by omega) i2
  · intro i i1 i2
    rw [en, pk_uLn (by omega)]
    exact n7 i (by omega) i2
  · intro i i1 i2
    rw [en, pk_uLn (by omega)]
    exact n8 i (by omega) i2
  · intro i hi
    exact (s3 i hi).fr (by rw [eo 24 (by decide) (by decide) (by decide) (by decide) (by decide)]) (by rw [fo 355 (by decide) (by decide) (by decide) (by decide) (by decide)])
  · intro i hi
    exact ((s4 i hi)).fr (fun k hk => by rw [eo k (by omega) (by omega) (by omega) (by omega) (by omega)]) (fun r h1 h2 => by rw [fo r (by omega) (by omega) (by omega) (by omega) (by omega)])
  · intro i hi
    by_cases c : i = ne
    · subst c
      refine ⟨q, s, w, b0, b1, b2, ?_, ?_, ?_, ?_, ?_, ?_⟩
      · rw [e0, pk_us]
      · rw [f0, pk_us]
      · rw [e1, pk_us]
      · rw [f1, pk_us]
      · rw [e2, pk_us]
      · rw [f2, pk_us]
    · refine (s5 i (by omega)).fr ?_ ?_
      · intro k hk
        rcases hk with rfl | rfl | rfl
        · rw [e0, pk_un (by omega)]
        · rw [e1, pk_un (by omega)]
        · rw [e2, pk_un (by omega)]
      · intro r h1 h2
        rcases (show r = 362 ∨ r = 363 ∨ r = 364 by omega) with rfl | rfl | rfl
        · rw [f0, pk_un (by omega)]
        · rw [f1, pk_un (by omega)]
        · rw [f2, pk_un (by omega)]
  · intro i hi
    exact ((s6 i hi).mono (Nat.le_refl nc) (Nat.le_succ ne)).fr (fun k h1 h2 => by rw [eo k (by omega) (by omega) (by omega) (by omega) (by omega)]) (fun r h1 h2 => by rw [fo r (by omega) (by omega) (by omega) (by omega) (by omega)])
  · exact (s7).fr (by rw [eo 2 (by decide) (by decide) (by decide) (by decide) (by decide)]) (by rw [fo 356 (by decide) (by decide) (by decide) (by decide) (by decide)])
  · exact s8.fr (by rw [eo 13 (by decide) (by decide) (by decide) (by decide) (by decide)]) (by rw [fo 369 (by decide) (by decide) (by decide) (by decide) (by decide)])
  · exact s9.fr eT eL (by rw [eo 15 (by decide) (by decide) (by decide) (by decide) (by decide)]) (fun r h1 h2 => by rw [fo r (by omega) (by omega) (by omega) (by omega) (by omega)]) fL
theorem PR.work {h g h' g' : AH} {a np ny nc ne nw e t u y : Nat} {nm : Int64} (P : PR h g a np ny nc ne nw) (hc : nw < 6) (b0 : e < ne) (b1 : t < nc) (b2 : 1 ≤ u ∧ u ≤ 99) (b3 : y ≤ 99) (e0 : hAI h' (a + 9) = upd (hAI h (a + 9)) nw (nI e)) (e1 : hAI h' (a + 10) = upd (hAI h (a + 10)) nw (nI t)) (e2 : hAI h' (a + 11) = upd (hAI h (a + 11)) nw (nI u)) (e3 : hAI h' (a + 12) = upd (hAI h (a + 12)) nw (nI y)) (eo : ∀ k, 2 ≤ k → k ≤ 24 → k ≠ 9 → k ≠ 10 → k ≠ 11 → k ≠ 12 → hAI h' (a + k) = hAI h (a + k)) (en : hAJ h' (a + 1) = vp_updL (hAJ h (a + 1)) (15 + nw) nm) (ec : hFI h' 505 a = nI (nw + 1)) (eC : ∀ k, 501 ≤ k → k ≤ 505 → k ≠ 505 → hFI h' k a = hFI h k a) (eT : hFI h' 604 3 = hFI h 604 3) (eL : hFI h' 401 (a + 14) = hFI h 401 (a + 14)) (f0 : hAI g' 365 = upd (hAI g 365) (6 + nw) (nI e)) (f1 : hAI g' 366 = upd (hAI g 366) (6 + nw) (nI t)) (f2 : hAI g' 367 = upd (hAI g 367) (6 + nw) (nI u)) (f3 : hAI g' 368 = upd (hAI g 368) (6 + nw) (nI y)) (fo : ∀ r, 355 ≤ r → r ≤ 372 → r ≠ 365 → r ≠ 366 → r ≠ 367 → r ≠ 368 → hAI g' r = hAI g r) (fn : hAJ g' 354 = vp_updL (hAJ g 354) (6 + nw) nm) (fN : ∀ r, 351 ≤ r → r ≤ 354 → r ≠ 354 → hAJ g' r = hAJ g r) (fc : hAI g' 350 = upd (hAI g 350) 9 (nI (nw + 1))) (fL : hFI g' 1233 348 = hFI g 1233 348) : PR h' g' a np ny nc ne (nw + 1) := by
  obtain ⟨⟨k1, k2, k3, k4, k5, j1, j2, j3, j4, j5, l1, l2, l3, l4⟩, ⟨⟨n1, n2, n3, n4⟩, n5, n6, n7, n8⟩, s3, s4, s5, s6, s7, s8, s9⟩ := P
  refine ⟨⟨by rw [eC 501 (by decide) (by decide) (by decide)]; exact k1, by rw [eC 502 (by decide) (by decide) (by decide)]; exact k2, by rw [eC 503 (by decide) (by decide) (by decide)]; exact k3, by rw [eC 504 (by decide) (by decide) (by decide)]; exact k4, ec, by rw [fc, pk_un (by decide)]; exact j1, by rw [fc, pk_un (by decide)]; exact j2, by rw [fc, pk_un (by decide)]; exact j3, by rw [fc, pk_un (by decide)]; exact j4, by rw [fc, pk_us], l1, l2, l3, by omega⟩, ⟨⟨?_, ?_, ?_, ?_⟩, ?_, ?_, ?_, ?_⟩, ?_, ?_, ?_, ?_, ?_, ?_, ?_⟩
  · intro i hi
    rw [en, fN 351 (by decide) (by decide) (by decide), pk_uLn (by omega)]
    exact n1 i hi
  · intro i hi
    rw [en, fN 352 (by decide) (by decide) (by decide), pk_uLn (by omega)]
    exact n2 i hi
  · intro i hi
    rw [en, fN 353 (by decide) (by decide) (by decide), pk_uLn (by omega)]
    exact n3 i hi
  · intro i hi
    rw [en, fn]
    by_cases c : i = nw
    · subst c
      rw [pk_uLs, pk_uLs]
    · rw [pk_uLn (by omega), pk_uLn (by omega)]
      exact n4 i (by omega)
  · intro i i1 i2
    rw [en, pk_uLn (by omega)]
    exact n5 i (by omega) i2
  · intro i i1 i2
    rw [en, pk_uLn (by omega)]
    exact n6 i (by omega) i2
  · intro i i1 i2
    rw [en, pk_uLn (by omega)]
    exact n7 i (by omega) i2
  · intro i i1 i2
    rw [en, pk_uLn (by omega)]
    exact n8 i (by omega) i2
  · intro i hi
    exact (s3 i hi).fr (by rw [eo 24 (by decide) (by decide) (by decide) (by decide) (by decide) (by decide)]) (by rw [fo 355 (by decide) (by decide) (by decide) (by decide) (by decide) (by decide)])
  · intro i hi
    exact ((s4 i hi)).fr (fun k hk => by rw [eo k (by omega) (by omega) (by omega) (by omega) (by omega) (by omega)]) (fun r h1 h2 => by rw [fo r (by omega) (by omega) (by omega) (by omega) (by omega) (by omega)])
  · intro i hi
    exact ((s5 i hi)).fr (fun k hk => by rw [eo k (by omega) (by omega) (by omega) (by omega) (by omega) (by omega)]) (fun r h1 h2 => by rw [fo r (by omega) (by omega) (by omega) (by omega) (by omega) (by omega)])
  · intro i hi
    by_cases c : i = nw
    · subst c
      refine ⟨e, t, u, y, b0, b1, b2.1, b2.2, b3, ?_, ?_, ?_, ?_, ?_, ?_, ?_, ?_⟩
      · rw [e0, pk_us]
      · rw [f0, pk_us]
      · rw [e1, pk_us]
      · rw [f1, pk_us]
      · rw [e2, pk_us]
      · rw [f2, pk_us]
      · rw [e3, pk_us]
      · rw [f3, pk_us]
    · refine (s6 i (by omega)).fr ?_ ?_
      · intro k h1 h2
        rcases (show k = 9 ∨ k = 10 ∨ k = 11 ∨ k = 12 by omega) with rfl | rfl | rfl | rfl
        · rw [e0, pk_un (by omega)]
        · rw [e1, pk_un (by omega)]
        · rw [e2, pk_un (by omega)]
        · rw [e3, pk_un (by omega)]
      · intro r h1 h2
        rcases (show r = 365 ∨ r = 366 ∨ r = 367 ∨ r = 368 by omega) with rfl | rfl | rfl | rfl
        · rw [f0, pk_un (by omega)]
        · rw [f1, pk_un (by omega)]
        · rw [f2, pk_un (by omega)]
        · rw [f3, pk_un (by omega)]
  · exact (s7).fr (by rw [eo 2 (by decide) (by decide) (by decide) (by decide) (by decide) (by decide)]) (by rw [fo 356 (by decide) (by decide) (by decide) (by decide) (by decide) (by decide)])
  · exact s8.fr (by rw [eo 13 (by decide) (by decide) (by decide) (by decide) (by decide) (by decide)]) (by rw [fo 369 (by decide) (by decide) (by decide) (by decide) (by decide) (by decide)])
  · exact s9.fr eT eL (by rw [eo 15 (by decide) (by decide) (by decide) (by decide) (by decide) (by decide)]) (fun r h1 h2 => by rw [fo r (by omega) (by omega) (by omega) (by omega) (by omega) (by omega)]) fL
