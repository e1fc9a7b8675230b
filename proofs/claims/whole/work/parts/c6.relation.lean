/-! the start: the relation, addresses, the flag -/
theorem ReL_Z : ReL cZ tZ := by
  refine ⟨⟨fun j => rfl, 0, by decide, rfl, rfl, fun i hi => absurd hi (Nat.not_lt_zero i)⟩, ⟨rfl, rfl, rfl, Or.inl rfl⟩, Or.inl ⟨rfl, rfl⟩, Or.inl ⟨⟨rfl, rfl, rfl, rfl, rfl, rfl⟩, fun _ _ => rfl, rfl, rfl⟩, Or.inl ⟨rfl, rfl, rfl⟩⟩
theorem st_off {l : Launch} (h : l.flags = flags0) : l.stackTraces = false := by
  show (!l.flags.contains noTraceFlag) = false
  rw [h]; decide +kernel
theorem st_ad {E : mEnv} {args : Array Value} {s : State} (b : Nat) (eS : E.2.2.2 = (aS args s, aV args s, aF args s)) : ∃ ad : Nat → Nat, ad 1200 = b ∧ mAd E ad := by
  refine ⟨fun j => if j = 1200 then b else if j = 1300 then (aF args s).getD 0 else if j = 1000 then aS args s "PusherRoom$RoomText" 60 else if j = 1001 then aS args s "PusherRoom$TextInput" 23 else if j = 1002 then aS args s "PusherRoom" 417 else if j = 1100 then aV args s "PusherRoom$RoomText" 60 else if j = 1101 then aV args s "PusherRoom$TextInput" 23 else if j = 1102 then aV args s "PusherRoom" 417 else 0, rfl, ?_⟩
  unfold mAd
  rw [eS]
  refine ⟨List.forall_mem_cons.mpr ⟨⟨rfl, rfl⟩, List.forall_mem_cons.mpr ⟨⟨rfl, rfl⟩, List.forall_mem_cons.mpr ⟨⟨rfl, rfl⟩, fun _ h => absurd h List.not_mem_nil⟩⟩⟩, fun f hf => ?_⟩
  have hf : aF args s = some f := hf
  show (aF args s).getD 0 = f
  rw [hf]; rfl
