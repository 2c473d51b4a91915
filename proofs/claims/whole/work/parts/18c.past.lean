theorem placeAt_0 {d : Nat} {e : Int32} {S : mS} (h : e = 0) : Ev d Mx46 (entry Mx46 [.ref 36, .int e] S) (.inl (some (.ref 38)), S) := by
  subst h
  exact ev_stt 10 (c2 := (20, [mK, mK], [.ref 38], S, 0)) rfl (ev_ret rfl rfl rfl)
theorem placeAt_1 {d : Nat} {e : Int32} {S : mS} (h : e = 1) : Ev d Mx46 (entry Mx46 [.ref 36, .int e] S) (.inl (some (.ref 40)), S) := by
  subst h
  exact ev_stt 10 (c2 := (20, [mK, mK], [.ref 40], S, 0)) rfl (ev_ret rfl rfl rfl)
theorem placeAt_2 {d : Nat} {e : Int32} {S : mS} (h : e = 2) : Ev d Mx46 (entry Mx46 [.ref 36, .int e] S) (.inl (some (.ref 42)), S) := by
  subst h
  exact ev_stt 10 (c2 := (20, [mK, mK], [.ref 42], S, 0)) rfl (ev_ret rfl rfl rfl)
theorem placeAt_3 {d : Nat} {e : Int32} {S : mS} (h : e = 3) : Ev d Mx46 (entry Mx46 [.ref 36, .int e] S) (.inl (some (.ref 44)), S) := by
  subst h
  exact ev_stt 10 (c2 := (20, [mK, mK], [.ref 44], S, 0)) rfl (ev_ret rfl rfl rfl)
theorem placeAt_4 {d : Nat} {e : Int32} {S : mS} (h : e = 4) : Ev d Mx46 (entry Mx46 [.ref 36, .int e] S) (.inl (some (.ref 46)), S) := by
  subst h
  exact ev_stt 10 (c2 := (20, [mK, mK], [.ref 46], S, 0)) rfl (ev_ret rfl rfl rfl)
theorem placeAt_5 {d : Nat} {e : Int32} {S : mS} (h : e = 5) : Ev d Mx46 (entry Mx46 [.ref 36, .int e] S) (.inl (some (.ref 48)), S) := by
  subst h
  exact ev_stt 10 (c2 := (20, [mK, mK], [.ref 48], S, 0)) rfl (ev_ret rfl rfl rfl)
theorem placeAt_6 {d : Nat} {e : Int32} {S : mS} (h : e = 6) : Ev d Mx46 (entry Mx46 [.ref 36, .int e] S) (.inl (some (.ref 50)), S) := by
  subst h
  exact ev_stt 10 (c2 := (20, [mK, mK], [.ref 50], S, 0)) rfl (ev_ret rfl rfl rfl)
theorem placeAt_7 {d : Nat} {e : Int32} {S : mS} (h : e = 7) : Ev d Mx46 (entry Mx46 [.ref 36, .int e] S) (.inl (some (.ref 52)), S) := by
  subst h
  exact ev_stt 10 (c2 := (20, [mK, mK], [.ref 52], S, 0)) rfl (ev_ret rfl rfl rfl)
theorem placeAt_8 {d : Nat} {e : Int32} {S : mS} (h : e = 8) : Ev d Mx46 (entry Mx46 [.ref 36, .int e] S) (.inl (some (.ref 54)), S) := by
  subst h
  exact ev_stt 10 (c2 := (20, [mK, mK], [.ref 54], S, 0)) rfl (ev_ret rfl rfl rfl)
theorem placeAt_9 {d : Nat} {e : Int32} {S : mS} (h : e = 9) : Ev d Mx46 (entry Mx46 [.ref 36, .int e] S) (.inl (some (.ref 56)), S) := by
  subst h
  exact ev_stt 10 (c2 := (20, [mK, mK], [.ref 56], S, 0)) rfl (ev_ret rfl rfl rfl)
theorem placeAt_10 {d : Nat} {e : Int32} {S : mS} (h : e = 10) : Ev d Mx46 (entry Mx46 [.ref 36, .int e] S) (.inl (some (.ref 58)), S) := by
  subst h
  exact ev_stt 10 (c2 := (20, [mK, mK], [.ref 58], S, 0)) rfl (ev_ret rfl rfl rfl)
theorem placeAt_11 {d : Nat} {e : Int32} {S : mS} (h : e = 11) : Ev d Mx46 (entry Mx46 [.ref 36, .int e] S) (.inl (some (.ref 60)), S) := by
  subst h
  exact ev_stt 10 (c2 := (20, [mK, mK], [.ref 60], S, 0)) rfl (ev_ret rfl rfl rfl)
