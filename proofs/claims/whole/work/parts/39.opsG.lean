theorem become_all {d : Nat → Int32} {t n : Nat → Nat → Int32} {td lk rt fr nB nW nR nO nA nU : Nat} (h : RAt d t n td lk rt fr nB nW nR nO nA nU) (x0 x1 x2 x3 y0 y1 y2 y3 y4 y5 y6 y7 y8 : Int32) (f0 f1 f2 f3 f4 f5 f6 f7 f8 : Nat → Int32) : fX0_become x0 x1 x2 x3 y0 f0 y1 f1 y2 f2 y3 f3 y4 f4 y5 f5 y6 f6 y7 f7 y8 f8 (d 0) (d 1) (d 2) (d 3) (d 4) (t 0) (d 5) (t 1) (d 6) (t 2) (d 7) (t 3) (d 8) (t 4) (d 9) (t 5) (d 10) (t 6) (d 11) (t 7) (d 12) (t 8) = some (d 0, d 1, d 2, d 3, d 4, va_cpy (t 0) f0 0 0 216, d 5, va_cpy (t 1) f1 0 0 300, d 6, va_cpy (t 2) f2 0 0 60, d 7, va_cpy (t 3) f3 0 0 50, d 8, va_cpy (t 4) f4 0 0 35, d 9, va_cpy (t 5) f5 0 0 35, d 10, va_cpy (t 6) f6 0 0 16, d 11, va_cpy (t 7) f7 0 0 51, d 12, va_cpy (t 8) f8 0 0 240) := by
  obtain ⟨⟨h1, -, h3⟩, -⟩ := h
  obtain ⟨d0, d1, d2, d3, d4, d5, d6, d7, d8, d9, d10, d11, d12⟩ := h1
  rw [fX0_become, d4, d5, d6, d7, d8, d9, d10, d11, d12]
  rw [show fX4_become 24 y0 216 f0 (nI nB) 216 (t 0) = _ from become_at (mx := 24) (by omega) (by decide) (by decide), bn2S]
  rw [show fX4_become 60 y1 300 f1 (nI nW) 300 (t 1) = _ from become_at (mx := 60) (by omega) (by decide) (by decide), bn2S]
  rw [show fX4_become 30 y2 60 f2 (nI 30) 60 (t 2) = _ from become_at (mx := 30) (by omega) (by decide) (by decide), bn2S]
  rw [show fX4_become 10 y3 50 f3 (nI nR) 50 (t 3) = _ from become_at (mx := 10) (by omega) (by decide) (by decide), bn2S]
  rw [show fX4_become 7 y4 35 f4 (nI nO) 35 (t 4) = _ from become_at (mx := 7) (by omega) (by decide) (by decide), bn2S]
  rw [show fX4_become 7 y5 35 f5 (nI nA) 35 (t 5) = _ from become_at (mx := 7) (by omega) (by decide) (by decide), bn2S]
  rw [show fX4_become 4 y6 16 f6 (nI 4) 16 (t 6) = _ from become_at (mx := 4) (by omega) (by decide) (by decide), bn2S]
  rw [show fX4_become 3 y7 51 f7 (nI 3) 51 (t 7) = _ from become_at (mx := 3) (by omega) (by decide) (by decide), bn2S]
  rw [show fX4_become 40 y8 240 f8 (nI nU) 240 (t 8) = _ from become_at (mx := 40) (by omega) (by decide) (by decide), bn2S]
theorem op_keep : Op_keep Inv := by
  intro E F M N h
  obtain ⟨⟨td, lk, rt, fr, nB, nW, nR, nO, nA, nU, hA⟩, hK, hT, hP⟩ := id h
  refine ⟨1, 1, E 2, E 3, E 4, E 5, E 6, va_cpy (F 0) (F 9) 0 0 216, E 7, va_cpy (F 1) (F 10) 0 0 300, E 8, va_cpy (F 2) (F 11) 0 0 60, E 9, va_cpy (F 3) (F 12) 0 0 50, E 10, va_cpy (F 4) (F 13) 0 0 35, E 11, va_cpy (F 5) (F 14) 0 0 35, E 12, va_cpy (F 6) (F 15) 0 0 16, E 13, va_cpy (F 7) (F 16) 0 0 51, E 14, va_cpy (F 8) (F 17) 0 0 240, 1, nI 1030, N 0, N 1, N 2, N 3, N 4, N 5, N 6, N 7, N 8, mvAll (N 17) N, ?_, ?_, ?_⟩
  · have b := become_all (d := fun i => E (2 + i)) (t := F) hA (E 15) (E 16) (E 17) (E 18) (E 19) (E 20) (E 21) (E 22) (E 23) (E 24) (E 25) (E 26) (E 27) (F 9) (F 10) (F 11) (F 12) (F 13) (F 14) (F 15) (F 16) (F 17)
    rw [fX6_keep]
    have b' : fX0_become (E 15) (E 16) (E 17) (E 18) (E 19) (F 9) (E 20) (F 10) (E 21) (F 11) (E 22) (F 12) (E 23) (F 13) (E 24) (F 14) (E 25) (F 15) (E 26) (F 16) (E 27) (F 17) (E 2) (E 3) (E 4) (E 5) (E 6) (F 0) (E 7) (F 1) (E 8) (F 2) (E 9) (F 3) (E 10) (F 4) (E 11) (F 5) (E 12) (F 6) (E 13) (F 7) (E 14) (F 8) = _ := b
    rw [b']
    rfl
  · rw [fX7_keep, all_out]
    rfl
  · simp only [up_self]
    refine ⟨RD_congr h.1 ?_ (fun j hj => ?_) (fun k hk => va_up_ne _ _ (by omega)), Or.inr ⟨rfl, rfl, td, lk, rt, fr, nB, nW, nR, nO, nA, nU, RAt_cg hA ?_ ?_ ?_⟩, ?_, RP_same hP rfl rfl rfl rfl rfl rfl rfl⟩
    · intro i hi
      repeat rw [va_up_ne _ _ (by omega)]
    · repeat rw [va_up_ne _ _ (by omega)]
    · intro i hi
      exact match i, hi with
      | 0, _ => rfl
      | 1, _ => rfl
      | 2, _ => rfl
      | 3, _ => rfl
      | 4, _ => rfl
      | 5, _ => rfl
      | 6, _ => rfl
      | 7, _ => rfl
      | 8, _ => rfl
      | 9, _ => rfl
      | 10, _ => rfl
      | 11, _ => rfl
      | 12, _ => rfl
    · intro j hj i hi
      exact match j, hj, hi with
      | 0, _, hi => (cpy_at hi : va_cpy (F 0) (F 9) 0 0 216 i = F 0 i)
      | 1, _, hi => (cpy_at hi : va_cpy (F 1) (F 10) 0 0 300 i = F 1 i)
      | 2, _, hi => (cpy_at hi : va_cpy (F 2) (F 11) 0 0 60 i = F 2 i)
      | 3, _, hi => (cpy_at hi : va_cpy (F 3) (F 12) 0 0 50 i = F 3 i)
      | 4, _, hi => (cpy_at hi : va_cpy (F 4) (F 13) 0 0 35 i = F 4 i)
      | 5, _, hi => (cpy_at hi : va_cpy (F 5) (F 14) 0 0 35 i = F 5 i)
      | 6, _, hi => (cpy_at hi : va_cpy (F 6) (F 15) 0 0 16 i = F 6 i)
      | 7, _, hi => (cpy_at hi : va_cpy (F 7) (F 16) 0 0 51 i = F 7 i)
      | 8, _, hi => (cpy_at hi : va_cpy (F 8) (F 17) 0 0 240 i = F 8 i)
    · exact mvAll_at (N 17) N
    · obtain ⟨mn, t0, t1, t2, t3⟩ := hT
      exact ⟨mn, t0, t1, t2, t3⟩
theorem op_back : Op_back Inv := by
  intro E F M N h
  obtain ⟨hD, hK, hT, hP⟩ := id h
  rcases id hK with ⟨k1, k2⟩ | ⟨k1, k2, td, lk, rt, fr, nB, nW, nR, nO, nA, nU, hA⟩
  · refine ⟨-3, E 1, E 2, E 3, E 4, E 5, E 6, F 0, E 7, F 1, E 8, F 2, E 9, F 3, E 10, F 4, E 11, F 5, E 12, F 6, E 13, F 7, E 14, F 8, M 9, N 0, N 1, N 2, N 3, N 4, N 5, N 6, N 7, N 8, N 17, ?_, ?_, ?_⟩
    · rw [fX6_back, if_pos k1]
    · rw [fX7_back, if_pos k2]
    · simp only [up_self]
      exact h
  refine ⟨1, 0, E 15, E 16, E 17, E 18, E 19, va_cpy (F 9) (F 0) 0 0 216, E 20, va_cpy (F 10) (F 1) 0 0 300, E 21, va_cpy (F 11) (F 2) 0 0 60, E 22, va_cpy (F 12) (F 3) 0 0 50, E 23, va_cpy (F 13) (F 4) 0 0 35, E 24, va_cpy (F 14) (F 5) 0 0 35, E 25, va_cpy (F 15) (F 6) 0 0 16, E 26, va_cpy (F 16) (F 7) 0 0 51, E 27, va_cpy (F 17) (F 8) 0 0 240, nI 1030, mvR (N 17) 0 10 (N 0), mvR (N 17) 10 216 (N 1), mvR (N 17) 226 300 (N 2), mvR (N 17) 526 60 (N 3), mvR (N 17) 586 50 (N 4), mvR (N 17) 636 70 (N 5), mvR (N 17) 706 16 (N 6), mvR (N 17) 722 68 (N 7), mvR (N 17) 790 240 (N 8), N 17, ?_, ?_, ?_⟩
  · have b := become_all (d := fun i => E (15 + i)) (t := fun j => F (9 + j)) hA (E 2) (E 3) (E 4) (E 5) (E 6) (E 7) (E 8) (E 9) (E 10) (E 11) (E 12) (E 13) (E 14) (F 0) (F 1) (F 2) (F 3) (F 4) (F 5) (F 6) (F 7) (F 8)
    rw [fX6_back, if_neg (by rw [k1]; decide)]
    have b' : fX0_become (E 2) (E 3) (E 4) (E 5) (E 6) (F 0) (E 7) (F 1) (E 8) (F 2) (E 9) (F 3) (E 10) (F 4) (E 11) (F 5) (E 12) (F 6) (E 13) (F 7) (E 14) (F 8) (E 15) (E 16) (E 17) (E 18) (E 19) (F 9) (E 20) (F 10) (E 21) (F 11) (E 22) (F 12) (E 23) (F 13) (E 24) (F 14) (E 25) (F 15) (E 26) (F 16) (E 27) (F 17) = _ := b
    rw [b']
    rfl
  · rw [fX7_back, if_neg (by rw [k2]; decide), all_in]
    rfl
  · refine ⟨⟨td, lk, rt, fr, nB, nW, nR, nO, nA, nU, RAt_cg hA ?_ ?_ ?_⟩, Or.inr ⟨k1, k2, RD_congr ⟨td, lk, rt, fr, nB, nW, nR, nO, nA, nU, hA⟩ ?_ ?_ ?_⟩, ?_, Or.inl rfl⟩
    · intro i hi
      exact match i, hi with
      | 0, _ => rfl
      | 1, _ => rfl
      | 2, _ => rfl
      | 3, _ => rfl
      | 4, _ => rfl
      | 5, _ => rfl
      | 6, _ => rfl
      | 7, _ => rfl
      | 8, _ => rfl
      | 9, _ => rfl
      | 10, _ => rfl
      | 11, _ => rfl
      | 12, _ => rfl
    · intro j hj i hi
      exact match j, hj, hi with
      | 0, _, hi => (cpy_at hi : va_cpy (F 9) (F 0) 0 0 216 i = F 9 i)
      | 1, _, hi => (cpy_at hi : va_cpy (F 10) (F 1) 0 0 300 i = F 10 i)
      | 2, _, hi => (cpy_at hi : va_cpy (F 11) (F 2) 0 0 60 i = F 11 i)
      | 3, _, hi => (cpy_at hi : va_cpy (F 12) (F 3) 0 0 50 i = F 12 i)
      | 4, _, hi => (cpy_at hi : va_cpy (F 13) (F 4) 0 0 35 i = F 13 i)
      | 5, _, hi => (cpy_at hi : va_cpy (F 14) (F 5) 0 0 35 i = F 14 i)
      | 6, _, hi => (cpy_at hi : va_cpy (F 15) (F 6) 0 0 16 i = F 15 i)
      | 7, _, hi => (cpy_at hi : va_cpy (F 16) (F 7) 0 0 51 i = F 16 i)
      | 8, _, hi => (cpy_at hi : va_cpy (F 17) (F 8) 0 0 240 i = F 17 i)
    · intro k hk i hi
      exact match k, hk, hi with
      | 0, _, hi => (mvR_in hi : mvR (N 17) 0 10 (N 0) i = N 17 (0 + i))
      | 1, _, hi => (mvR_in hi : mvR (N 17) 10 216 (N 1) i = N 17 (10 + i))
      | 2, _, hi => (mvR_in hi : mvR (N 17) 226 300 (N 2) i = N 17 (226 + i))
      | 3, _, hi => (mvR_in hi : mvR (N 17) 526 60 (N 3) i = N 17 (526 + i))
      | 4, _, hi => (mvR_in hi : mvR (N 17) 586 50 (N 4) i = N 17 (586 + i))
      | 5, _, hi => (mvR_in hi : mvR (N 17) 636 70 (N 5) i = N 17 (636 + i))
      | 6, _, hi => (mvR_in hi : mvR (N 17) 706 16 (N 6) i = N 17 (706 + i))
      | 7, _, hi => (mvR_in hi : mvR (N 17) 722 68 (N 7) i = N 17 (722 + i))
      | 8, _, hi => (mvR_in hi : mvR (N 17) 790 240 (N 8) i = N 17 (790 + i))
    · intro i hi
      repeat rw [va_up_ne _ _ (by omega)]
    · intro j hj
      repeat rw [va_up_ne _ _ (by omega)]
    · intro k hk
      rfl
    · obtain ⟨mn, t0, t1, t2, t3⟩ := hT
      exact ⟨mn, t0, t1, t2, t3⟩
