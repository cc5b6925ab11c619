-- the start: the model's object, and what both show
theorem s_10_init {Q : Cc → Prop} {k : Cc} (f : FR k 355) (hQ : ∀ k', FR k' 360 → Mo k k' → DN k' 354 360 → (∀ a, a < 355 → k'.1.1 a = k.1.1 a) → (∀ y, k'.1.1 355 y = if y = 505 then 1000 else if y = 504 then 100 else if y = 503 then 200 else if y = 502 then 2400 else if y = 501 then 1 else if y = 500 then 300 else if y = 499 then 2 else 0) → Q k') : m_10_init 354 360 Q k := by
  have kk : kd 354 = 10 ∧ kd 355 = 30 ∧ kd 356 = 31 ∧ kd 357 = 32 ∧ kd 358 = 33 ∧ kd 359 = 34 := by decide +kernel
  obtain ⟨c0, c1, c2, c3, c4, c5⟩ := kk
  unfold m_10_init
  refine ⟨by rw [f.1]; omega, by rw [f.1]; exact c1, f.zer, fun n1 en1 k2 e2 => ?_⟩
  have F2 : FR k2 356 := by rw [e2]; exact f.nx
  refine ⟨by rw [F2.1]; omega, by rw [en1, f.1], fun k3 e3 => ?_⟩
  have F3 : FR k3 356 := by rw [e3]; exact F2.wl (by omega)
  refine ⟨by rw [F3.1]; omega, by rw [F3.1]; exact c2, F3.zer, fun n4 en4 k5 e5 => ?_⟩
  have F5 : FR k5 357 := by rw [e5]; exact F3.nx
  refine ⟨by rw [F5.1]; omega, by rw [en4, F3.1], fun k6 e6 => ?_⟩
  have F6 : FR k6 357 := by rw [e6]; exact F5.wl (by omega)
  refine ⟨by rw [F6.1]; omega, by rw [F6.1]; exact c3, F6.zer, fun n7 en7 k8 e8 => ?_⟩
  have F8 : FR k8 358 := by rw [e8]; exact F6.nx
  refine ⟨by rw [F8.1]; omega, by rw [en7, F6.1], fun k9 e9 => ?_⟩
  have F9 : FR k9 358 := by rw [e9]; exact F8.wl (by omega)
  refine ⟨by rw [F9.1]; omega, by rw [F9.1]; exact c4, F9.zer, fun n10 en10 k11 e11 => ?_⟩
  have F11 : FR k11 359 := by rw [e11]; exact F9.nx
  refine ⟨by rw [F11.1]; omega, by rw [en10, F9.1], fun k12 e12 => ?_⟩
  have F12 : FR k12 359 := by rw [e12]; exact F11.wl (by omega)
  refine ⟨by rw [F12.1]; omega, by rw [F12.1]; exact c5, F12.zer, fun n13 en13 k14 e14 => ?_⟩
  have F14 : FR k14 360 := by rw [e14]; exact F12.nx
  refine ⟨by rw [F14.1]; omega, by rw [en13, F12.1], fun k15 e15 => ?_⟩
  have F15 : FR k15 360 := by rw [e15]; exact F14.wl (by omega)
  have V15 : k15.1 = k.1 := by rw [e15, e14, e12, e11, e9, e8, e6, e5, e3, e2]; rfl
  have M15 : Mo k k15 := by rw [e15, e14, e12, e11, e9, e8, e6, e5, e3, e2]; exact Mo.rf.nx.wr.nx.wr.nx.wr.nx.wr.nx.wr
  have r0 : k15.2.1 354 0 = true := by
    have h : Mo k3 k15 := by rw [e15, e14, e12, e11, e9, e8, e6, e5]; exact Mo.rf.nx.wr.nx.wr.nx.wr.nx.wr
    exact h 354 0 (by rw [e3]; exact wrR_t)
  have r2 : k15.2.1 354 2 = true := by
    have h : Mo k6 k15 := by rw [e15, e14, e12, e11, e9, e8]; exact Mo.rf.nx.wr.nx.wr.nx.wr
    exact h 354 2 (by rw [e6]; exact wrR_t)
  have r7 : k15.2.1 354 7 = true := by
    have h : Mo k9 k15 := by rw [e15, e14, e12, e11]; exact Mo.rf.nx.wr.nx.wr
    exact h 354 7 (by rw [e9]; exact wrR_t)
  have r8 : k15.2.1 354 8 = true := by
    have h : Mo k12 k15 := by rw [e15, e14]; exact Mo.rf.nx.wr
    exact h 354 8 (by rw [e12]; exact wrR_t)
  have r12 : k15.2.1 354 12 = true := by rw [e15]; exact wrR_t
  clear e15 e14 e12 e11 e9 e8 e6 e5 e3 e2 F14 F12 F11 F9 F8 F6 F5 F3 F2 en1 en4 en7 en10 en13
  refine ⟨by rw [F15.1]; omega, r0, v499, by rw [F15.1]; omega, fun k16 e16 => ?_⟩
  have F16 : FR k16 360 := by rw [e16]; exact F15.wi (by omega)
  have g16 : k16.2 = k15.2 := by rw [e16]; rfl
  refine ⟨by rw [F16.1]; omega, by rw [g16]; exact r0, v500, by rw [F16.1]; omega, fun k17 e17 => ?_⟩
  have F17 : FR k17 360 := by rw [e17]; exact F16.wi (by omega)
  have g17 : k17.2 = k15.2 := by rw [e17]; exact g16
  refine ⟨by rw [F17.1]; omega, by rw [g17]; exact r0, v501, by rw [F17.1]; omega, fun k18 e18 => ?_⟩
  have F18 : FR k18 360 := by rw [e18]; exact F17.wi (by omega)
  have g18 : k18.2 = k15.2 := by rw [e18]; exact g17
  refine ⟨by rw [F18.1]; omega, by rw [g18]; exact r0, v502, by rw [F18.1]; omega, fun k19 e19 => ?_⟩
  have F19 : FR k19 360 := by rw [e19]; exact F18.wi (by omega)
  have g19 : k19.2 = k15.2 := by rw [e19]; exact g18
  refine ⟨by rw [F19.1]; omega, by rw [g19]; exact r0, v503, by rw [F19.1]; omega, fun k20 e20 => ?_⟩
  have F20 : FR k20 360 := by rw [e20]; exact F19.wi (by omega)
  have g20 : k20.2 = k15.2 := by rw [e20]; exact g19
  refine ⟨by rw [F20.1]; omega, by rw [g20]; exact r0, v504, by rw [F20.1]; omega, fun k21 e21 => ?_⟩
  have F21 : FR k21 360 := by rw [e21]; exact F20.wi (by omega)
  have g21 : k21.2 = k15.2 := by rw [e21]; exact g20
  refine ⟨by rw [F21.1]; omega, by rw [g21]; exact r0, v505, by rw [F21.1]; omega, fun k22 e22 => ?_⟩
  have F22 : FR k22 360 := by rw [e22]; exact F21.wi (by omega)
  have g22 : k22.2 = k15.2 := by rw [e22]; exact g21
  rw [t499, show (354 + 1 : Nat) = 355 from rfl] at e16
  rw [t500, show (354 + 1 : Nat) = 355 from rfl] at e17
  rw [t501, show (354 + 1 : Nat) = 355 from rfl] at e18
  rw [t502, show (354 + 1 : Nat) = 355 from rfl] at e19
  rw [t503, show (354 + 1 : Nat) = 355 from rfl] at e20
  rw [t504, show (354 + 1 : Nat) = 355 from rfl] at e21
  rw [t505, show (354 + 1 : Nat) = 355 from rfl] at e22
  have v : k22.1 = wr (wr (wr (wr (wr (wr (wr k.1 355 499 2) 355 500 300) 355 501 1) 355 502 2400) 355 503 200) 355 504 100) 355 505 1000 := by
    rw [e22, e21, e20, e19, e18, e17, e16, ← V15]
    rfl
  refine ⟨F22.1, hQ k22 F22 (fun a j h => by rw [g22]; exact M15 a j h) ?_ (fun a ha => ?_) (fun y => ?_)⟩
  · refine DN.ap (m := 355) (DN.one c0 (fun j w => ?_)) (DN.ap (m := 356) (DN.no c1 (fun _ => rfl)) (DN.ap (m := 357) (DN.no c2 (fun _ => rfl)) (DN.ap (m := 358) (DN.no c3 (fun _ => rfl)) (DN.ap (m := 359) (DN.no c4 (fun _ => rfl)) (DN.no c5 (fun _ => rfl))))))
    simp [isR] at w
    rw [g22]
    rcases w with (((rfl | rfl) | rfl) | rfl) | rfl
    · exact r0
    · exact r2
    · exact r7
    · exact r8
    · exact r12
  · rw [v, wr_cell (by omega), wr_cell (by omega), wr_cell (by omega), wr_cell (by omega), wr_cell (by omega), wr_cell (by omega), wr_cell (by omega)]
  · rw [v, wr_at, wr_at, wr_at, wr_at, wr_at, wr_at, wr_at, rd_upd, rd_upd, rd_upd, rd_upd, rd_upd, rd_upd, rd_upd, (f.2.1 355 y (by omega)).1]
theorem inv0 {k : Cc} {σ : St} (s : st9 k) (low : ∀ a, a < 354 → σ.1 a = k.1.1 a) (z : ∀ j, σ.1 354 j = 0) (p : ∀ y, σ.1 355 y = if y = 505 then 1000 else if y = 504 then 100 else if y = 503 then 200 else if y = 502 then 2400 else if y = 501 then 1 else if y = 500 then 300 else if y = 499 then 2 else 0) : Inv 0 σ := by
  obtain ⟨-, -, s1, s2, s3, s4, s5, s6, s7, s8⟩ := s
  have w7 : ∀ j, σ.1 7 j = if j = 6 then 1000 else 0 := fun j => by rw [low 7 (by omega)]; exact s5 j
  have w10 : ∀ j, σ.1 10 j = if j < 6 then stV 0 j else 0 := fun j => by rw [low 10 (by omega)]; exact s6 j
  have w11 : ∀ j, σ.1 11 j = 0 := fun j => by rw [low 11 (by omega)]; exact s7 j
  have w12 : ∀ j, σ.1 12 j = 0 := fun j => by rw [low 12 (by omega)]; exact s8 j
  have q0 : pgW σ 7 0 = 0 := by rw [← g0, w7, if_neg (by omega)]
  have q507 : pgW σ 7 507 = 0 := by rw [← g507, w7, if_neg (by omega)]
  have q548 : pgW σ 7 548 = 0 := by rw [← g548, w7, if_neg (by omega)]
  have q505 : pgW σ 7 505 = 1000 := by rw [← g505, w7, if_pos rfl]
  have q506 : pgW σ 7 506 = 0 := by rw [← g506, w7, if_neg (by omega)]
  have q562 : pgW σ 7 562 = 0 := by rw [← g562, w7, if_neg (by omega)]
  have q563 : pgW σ 7 563 = 0 := by rw [← g563, w7, if_neg (by omega)]
  have qs : ∀ j, j < 6 → pgW σ 7 (499 + j) = stV 0 j := fun j hj => by rw [← gset σ 7 hj, show (7 + 3 : Nat) = 10 from rfl, w10, if_pos hj]
  have qm : ∀ j, j < 6 → pgW σ 7 (556 + j) = 0 := fun j hj => by rw [← gsum σ 7 hj, show (7 + 4 : Nat) = 11 from rfl, w11]
  have qr : ∀ j, j < 6 → pgW σ 7 (549 + j) = 0 := fun j hj => by rw [← grep σ 7 hj, show (7 + 5 : Nat) = 12 from rfl, w12]
  refine ⟨⟨0, 0, ⟨⟨q0, by omega, q507, by omega⟩, fun i hi => absurd hi (Nat.not_lt_zero i), fun i k hi => absurd hi (Nat.not_lt_zero i), fun j hj => absurd hj (Nat.not_lt_zero j), ⟨⟨2, qs 0 (by omega), by omega, by omega⟩, ⟨300, 0, qs 1 (by omega), q506, by omega, by omega, by omega⟩, ⟨1, qs 2 (by omega), by omega⟩, ⟨2400, qs 3 (by omega), by omega, by omega⟩, ⟨200, qs 4 (by omega), by omega⟩, ⟨100, qs 5 (by omega), by omega⟩, ⟨1000, q505, by omega⟩⟩, Or.inl q548, ⟨0, q562, by omega⟩⟩, fun x hx _ => ?_, ?_⟩, ⟨0, 0, by omega, by omega, ?_, ?_, ?_, fun j hj => absurd hj (Nat.not_lt_zero j)⟩, ⟨0, by omega, ?_, ?_, fun j hj => absurd hj (Nat.not_lt_zero j)⟩, ?_⟩
  · obtain ⟨h1, h2, h3, h4⟩ := hx
    rw [p]
    rcases (by omega : x = 0 ∨ x = 499 ∨ x = 500 ∨ x = 501 ∨ x = 502 ∨ x = 503 ∨ x = 504 ∨ x = 505 ∨ x = 506 ∨ x = 507 ∨ x = 548 ∨ (549 ≤ x ∧ x < 555) ∨ (556 ≤ x ∧ x < 562) ∨ x = 562 ∨ x = 563) with rfl | rfl | rfl | rfl | rfl | rfl | rfl | rfl | rfl | rfl | rfl | q | q | rfl | rfl
    · rw [q0]; rfl
    · exact qs 0 (by omega)
    · exact qs 1 (by omega)
    · exact qs 2 (by omega)
    · exact qs 3 (by omega)
    · exact qs 4 (by omega)
    · exact qs 5 (by omega)
    · rw [q505]; rfl
    · rw [q506]; rfl
    · rw [q507]; rfl
    · rw [q548]; rfl
    · obtain ⟨j, rfl⟩ : ∃ j, x = 549 + j := ⟨x - 549, by omega⟩
      rw [qr j (by omega), if_neg (by omega), if_neg (by omega), if_neg (by omega), if_neg (by omega), if_neg (by omega), if_neg (by omega), if_neg (by omega)]
    · obtain ⟨j, rfl⟩ : ∃ j, x = 556 + j := ⟨x - 556, by omega⟩
      rw [qm j (by omega), if_neg (by omega), if_neg (by omega), if_neg (by omega), if_neg (by omega), if_neg (by omega), if_neg (by omega), if_neg (by omega)]
    · rw [q562]; rfl
    · rw [q563]; rfl
  · rw [q562, if_pos rfl, p]
    rfl
  · rw [low 42 (by omega)]; exact s3
  · rw [low 42 (by omega)]; exact s4
  · exact z 1
  · rw [low 1 (by omega)]; exact s2
  · exact z 3
  · rw [low 0 (by omega), s1, z]
