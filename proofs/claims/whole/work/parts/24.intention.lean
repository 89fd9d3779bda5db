theorem st_pl_succ (wk : Nat → Nat) (z j : Nat) : (st_pl wk z (j + 1) < j + 1) ↔ (st_pl wk z j < j ∨ wk j = z) := by
  rw [st_pl]
  have := st_pl_le wk z j
  by_cases h : st_pl wk z j < j
  · rw [if_pos h]; exact ⟨fun _ => Or.inl h, fun _ => by omega⟩
  · rw [if_neg h]
    by_cases e : wk j = z
    · rw [if_pos e]; exact ⟨fun _ => Or.inr e, fun _ => by omega⟩
    · rw [if_neg e]; exact ⟨fun q => by omega, fun q => q.elim (fun q => absurd q h) (fun q => absurd q e)⟩
def rS (dA : Nat → ClassId) (w : mh_w) (s a : Nat) (st : Nat → Option Int64) (lw : Nat → Int32) (g gg : Nat) : Prop := ∃ (a5 a9 : Nat) (f : Nat → Int32), w 4 s = some (a, .inr (3, [.ref a5, .ref a9, .int (nI g), .int (nI gg)])) ∧ rN dA w 5 s a5 st ∧ w 9 s = some (a9, .inl (dA 0, 256, .inl f)) ∧ ∀ j, j < 256 → f j = lw j
theorem rS.to {dA : Nat → ClassId} {w w' : mh_w} {s a g gg : Nat} {st st' : Nat → Option Int64} {lw lw' : Nat → Int32} (h : rS dA w s a st lw g gg) (h1 : ∀ k, 4 ≤ k → k < 10 → w' k s = w k s) (h2 : ∀ j, j < 256 → st j = st' j) (h3 : ∀ j, j < 256 → lw j = lw' j) : rS dA w' s a st' lw' g gg := by
  obtain ⟨a5, a9, f, e0, e1, e2, e3⟩ := h
  exact ⟨a5, a9, f, (h1 4 (by omega) (by omega)).trans e0, e1.to (fun z hz => h1 (5 + z) (by omega) (by omega)) h2, (h1 9 (by omega) (by omega)).trans e2, fun j hj => (e3 j hj).trans (h3 j hj)⟩
theorem d_IN_init_0 : decode b_IN_init 0 = .ok (.aload_n 0, 1) := by decide +kernel
theorem d_IN_init_1 : decode b_IN_init 1 = .ok (.invokespecial 3, 3) := by decide +kernel
theorem d_IN_init_4 : decode b_IN_init 4 = .ok (.aload_n 0, 1) := by decide +kernel
theorem d_IN_init_5 : decode b_IN_init 5 = .ok (.new 9, 3) := by decide +kernel
theorem d_IN_init_8 : decode b_IN_init 8 = .ok (.dup, 1) := by decide +kernel
theorem d_IN_init_9 : decode b_IN_init 9 = .ok (.invokespecial 11, 3) := by decide +kernel
theorem d_IN_init_12 : decode b_IN_init 12 = .ok (.putfield 12, 3) := by decide +kernel
theorem d_IN_init_15 : decode b_IN_init 15 = .ok (.aload_n 0, 1) := by decide +kernel
theorem d_IN_init_16 : decode b_IN_init 16 = .ok (.bipush 8, 2) := by decide +kernel
theorem d_IN_init_18 : decode b_IN_init 18 = .ok (.newarray .int, 2) := by decide +kernel
theorem d_IN_init_20 : decode b_IN_init 20 = .ok (.putfield 18, 3) := by decide +kernel
theorem d_IN_init_23 : decode b_IN_init 23 = .ok (.aload_n 0, 1) := by decide +kernel
theorem d_IN_init_24 : decode b_IN_init 24 = .ok (.bipush 8, 2) := by decide +kernel
theorem d_IN_init_26 : decode b_IN_init 26 = .ok (.newarray .int, 2) := by decide +kernel
theorem d_IN_init_28 : decode b_IN_init 28 = .ok (.putfield 22, 3) := by decide +kernel
theorem d_IN_init_31 : decode b_IN_init 31 = .ok (.aload_n 0, 1) := by decide +kernel
theorem d_IN_init_32 : decode b_IN_init 32 = .ok (.bipush 8, 2) := by decide +kernel
theorem d_IN_init_34 : decode b_IN_init 34 = .ok (.newarray .int, 2) := by decide +kernel
theorem d_IN_init_36 : decode b_IN_init 36 = .ok (.putfield 25, 3) := by decide +kernel
theorem d_IN_init_39 : decode b_IN_init 39 = .ok (.aload_n 0, 1) := by decide +kernel
theorem d_IN_init_40 : decode b_IN_init 40 = .ok (.bipush 8, 2) := by decide +kernel
theorem d_IN_init_42 : decode b_IN_init 42 = .ok (.newarray .boolean, 2) := by decide +kernel
theorem d_IN_init_44 : decode b_IN_init 44 = .ok (.putfield 28, 3) := by decide +kernel
theorem d_IN_init_47 : decode b_IN_init 47 = .ok (.aload_n 0, 1) := by decide +kernel
theorem d_IN_init_48 : decode b_IN_init 48 = .ok (.bipush 8, 2) := by decide +kernel
theorem d_IN_init_50 : decode b_IN_init 50 = .ok (.newarray .long, 2) := by decide +kernel
theorem d_IN_init_52 : decode b_IN_init 52 = .ok (.putfield 32, 3) := by decide +kernel
theorem d_IN_init_55 : decode b_IN_init 55 = .ok (.aload_n 0, 1) := by decide +kernel
theorem d_IN_init_56 : decode b_IN_init 56 = .ok (.iload_n 1, 1) := by decide +kernel
theorem d_IN_init_57 : decode b_IN_init 57 = .ok (.putfield 36, 3) := by decide +kernel
theorem d_IN_init_60 : decode b_IN_init 60 = .ok (.aload_n 0, 1) := by decide +kernel
theorem d_IN_init_61 : decode b_IN_init 61 = .ok (.iload_n 2, 1) := by decide +kernel
theorem d_IN_init_62 : decode b_IN_init 62 = .ok (.putfield 40, 3) := by decide +kernel
theorem d_IN_init_65 : decode b_IN_init 65 = .ok (.aload_n 0, 1) := by decide +kernel
theorem d_IN_init_66 : decode b_IN_init 66 = .ok (.iload_n 3, 1) := by decide +kernel
theorem d_IN_init_67 : decode b_IN_init 67 = .ok (.putfield 43, 3) := by decide +kernel
theorem d_IN_init_70 : decode b_IN_init 70 = .ok (.return_, 1) := by decide +kernel
theorem d_IN_placeOf_0 : decode b_IN_placeOf 0 = .ok (.iconst 0, 1) := by decide +kernel
theorem d_IN_placeOf_1 : decode b_IN_placeOf 1 = .ok (.istore_n 2, 1) := by decide +kernel
theorem d_IN_placeOf_2 : decode b_IN_placeOf 2 = .ok (.iload_n 2, 1) := by decide +kernel
theorem d_IN_placeOf_3 : decode b_IN_placeOf 3 = .ok (.aload_n 0, 1) := by decide +kernel
theorem d_IN_placeOf_4 : decode b_IN_placeOf 4 = .ok (.getfield 61, 3) := by decide +kernel
theorem d_IN_placeOf_7 : decode b_IN_placeOf 7 = .ok (.if_icmp .ge 21, 3) := by decide +kernel
theorem d_IN_placeOf_28 : decode b_IN_placeOf 28 = .ok (.aload_n 0, 1) := by decide +kernel
theorem d_IN_placeOf_29 : decode b_IN_placeOf 29 = .ok (.getfield 61, 3) := by decide +kernel
theorem d_IN_placeOf_32 : decode b_IN_placeOf 32 = .ok (.ireturn, 1) := by decide +kernel
theorem d_IN_placeOf_10 : decode b_IN_placeOf 10 = .ok (.aload_n 0, 1) := by decide +kernel
theorem d_IN_placeOf_11 : decode b_IN_placeOf 11 = .ok (.getfield 25, 3) := by decide +kernel
theorem d_IN_placeOf_14 : decode b_IN_placeOf 14 = .ok (.iload_n 2, 1) := by decide +kernel
theorem d_IN_placeOf_15 : decode b_IN_placeOf 15 = .ok (.iaload, 1) := by decide +kernel
theorem d_IN_placeOf_16 : decode b_IN_placeOf 16 = .ok (.iload_n 1, 1) := by decide +kernel
theorem d_IN_placeOf_17 : decode b_IN_placeOf 17 = .ok (.if_icmp .ne 5, 3) := by decide +kernel
theorem d_IN_placeOf_22 : decode b_IN_placeOf 22 = .ok (.iinc 2 1, 3) := by decide +kernel
theorem d_IN_placeOf_25 : decode b_IN_placeOf 25 = .ok (.goto (-23), 3) := by decide +kernel
theorem d_IN_placeOf_20 : decode b_IN_placeOf 20 = .ok (.iload_n 2, 1) := by decide +kernel
theorem d_IN_placeOf_21 : decode b_IN_placeOf 21 = .ok (.ireturn, 1) := by decide +kernel
theorem d_IN_hasRoomFor_0 : decode b_IN_hasRoomFor 0 = .ok (.aload_n 0, 1) := by decide +kernel
theorem d_IN_hasRoomFor_1 : decode b_IN_hasRoomFor 1 = .ok (.iload_n 1, 1) := by decide +kernel
theorem d_IN_hasRoomFor_2 : decode b_IN_hasRoomFor 2 = .ok (.invokevirtual 57, 3) := by decide +kernel
theorem d_IN_hasRoomFor_5 : decode b_IN_hasRoomFor 5 = .ok (.bipush 8, 2) := by decide +kernel
theorem d_IN_hasRoomFor_7 : decode b_IN_hasRoomFor 7 = .ok (.if_icmp .ge 7, 3) := by decide +kernel
theorem d_IN_hasRoomFor_14 : decode b_IN_hasRoomFor 14 = .ok (.iconst 0, 1) := by decide +kernel
theorem d_IN_hasRoomFor_15 : decode b_IN_hasRoomFor 15 = .ok (.ireturn, 1) := by decide +kernel
theorem d_IN_hasRoomFor_10 : decode b_IN_hasRoomFor 10 = .ok (.iconst 1, 1) := by decide +kernel
theorem d_IN_hasRoomFor_11 : decode b_IN_hasRoomFor 11 = .ok (.goto 4, 3) := by decide +kernel
theorem d_IN_hasWritten_0 : decode b_IN_hasWritten 0 = .ok (.aload_n 0, 1) := by decide +kernel
theorem d_IN_hasWritten_1 : decode b_IN_hasWritten 1 = .ok (.iload_n 1, 1) := by decide +kernel
theorem d_IN_hasWritten_2 : decode b_IN_hasWritten 2 = .ok (.invokevirtual 57, 3) := by decide +kernel
theorem d_IN_hasWritten_5 : decode b_IN_hasWritten 5 = .ok (.aload_n 0, 1) := by decide +kernel
theorem d_IN_hasWritten_6 : decode b_IN_hasWritten 6 = .ok (.getfield 61, 3) := by decide +kernel
theorem d_IN_hasWritten_9 : decode b_IN_hasWritten 9 = .ok (.if_icmp .ge 7, 3) := by decide +kernel
theorem d_IN_hasWritten_16 : decode b_IN_hasWritten 16 = .ok (.iconst 0, 1) := by decide +kernel
theorem d_IN_hasWritten_17 : decode b_IN_hasWritten 17 = .ok (.ireturn, 1) := by decide +kernel
theorem d_IN_hasWritten_12 : decode b_IN_hasWritten 12 = .ok (.iconst 1, 1) := by decide +kernel
theorem d_IN_hasWritten_13 : decode b_IN_hasWritten 13 = .ok (.goto 4, 3) := by decide +kernel
theorem d_IN_hasRead_0 : decode b_IN_hasRead 0 = .ok (.iconst 0, 1) := by decide +kernel
theorem d_IN_hasRead_1 : decode b_IN_hasRead 1 = .ok (.istore_n 2, 1) := by decide +kernel
theorem d_IN_hasRead_2 : decode b_IN_hasRead 2 = .ok (.iload_n 2, 1) := by decide +kernel
theorem d_IN_hasRead_3 : decode b_IN_hasRead 3 = .ok (.aload_n 0, 1) := by decide +kernel
theorem d_IN_hasRead_4 : decode b_IN_hasRead 4 = .ok (.getfield 54, 3) := by decide +kernel
theorem d_IN_hasRead_7 : decode b_IN_hasRead 7 = .ok (.if_icmp .ge 31, 3) := by decide +kernel
theorem d_IN_hasRead_38 : decode b_IN_hasRead 38 = .ok (.aload_n 0, 1) := by decide +kernel
theorem d_IN_hasRead_39 : decode b_IN_hasRead 39 = .ok (.getfield 12, 3) := by decide +kernel
theorem d_IN_hasRead_42 : decode b_IN_hasRead 42 = .ok (.iload_n 1, 1) := by decide +kernel
theorem d_IN_hasRead_43 : decode b_IN_hasRead 43 = .ok (.invokevirtual 70, 3) := by decide +kernel
theorem d_IN_hasRead_46 : decode b_IN_hasRead 46 = .ok (.ireturn, 1) := by decide +kernel
theorem d_IN_hasRead_10 : decode b_IN_hasRead 10 = .ok (.aload_n 0, 1) := by decide +kernel
theorem d_IN_hasRead_11 : decode b_IN_hasRead 11 = .ok (.getfield 18, 3) := by decide +kernel
theorem d_IN_hasRead_14 : decode b_IN_hasRead 14 = .ok (.iload_n 2, 1) := by decide +kernel
theorem d_IN_hasRead_15 : decode b_IN_hasRead 15 = .ok (.iaload, 1) := by decide +kernel
theorem d_IN_hasRead_16 : decode b_IN_hasRead 16 = .ok (.iload_n 1, 1) := by decide +kernel
theorem d_IN_hasRead_17 : decode b_IN_hasRead 17 = .ok (.if_icmp .gt 15, 3) := by decide +kernel
theorem d_IN_hasRead_32 : decode b_IN_hasRead 32 = .ok (.iinc 2 1, 3) := by decide +kernel
theorem d_IN_hasRead_35 : decode b_IN_hasRead 35 = .ok (.goto (-33), 3) := by decide +kernel
theorem d_IN_hasRead_20 : decode b_IN_hasRead 20 = .ok (.iload_n 1, 1) := by decide +kernel
theorem d_IN_hasRead_21 : decode b_IN_hasRead 21 = .ok (.aload_n 0, 1) := by decide +kernel
theorem d_IN_hasRead_22 : decode b_IN_hasRead 22 = .ok (.getfield 22, 3) := by decide +kernel
theorem d_IN_hasRead_25 : decode b_IN_hasRead 25 = .ok (.iload_n 2, 1) := by decide +kernel
theorem d_IN_hasRead_26 : decode b_IN_hasRead 26 = .ok (.iaload, 1) := by decide +kernel
theorem d_IN_hasRead_27 : decode b_IN_hasRead 27 = .ok (.if_icmp .gt 5, 3) := by decide +kernel
theorem d_IN_hasRead_30 : decode b_IN_hasRead 30 = .ok (.iconst 1, 1) := by decide +kernel
theorem d_IN_hasRead_31 : decode b_IN_hasRead 31 = .ok (.ireturn, 1) := by decide +kernel
theorem d_IN_isHitBy_0 : decode b_IN_isHitBy 0 = .ok (.iconst 0, 1) := by decide +kernel
theorem d_IN_isHitBy_1 : decode b_IN_isHitBy 1 = .ok (.istore_n 2, 1) := by decide +kernel
theorem d_IN_isHitBy_2 : decode b_IN_isHitBy 2 = .ok (.iload_n 2, 1) := by decide +kernel
theorem d_IN_isHitBy_3 : decode b_IN_isHitBy 3 = .ok (.aload_n 1, 1) := by decide +kernel
theorem d_IN_isHitBy_4 : decode b_IN_isHitBy 4 = .ok (.getfield 61, 3) := by decide +kernel
theorem d_IN_isHitBy_7 : decode b_IN_isHitBy 7 = .ok (.if_icmp .ge 44, 3) := by decide +kernel
theorem d_IN_isHitBy_51 : decode b_IN_isHitBy 51 = .ok (.iconst 0, 1) := by decide +kernel
theorem d_IN_isHitBy_52 : decode b_IN_isHitBy 52 = .ok (.ireturn, 1) := by decide +kernel
theorem d_IN_isHitBy_10 : decode b_IN_isHitBy 10 = .ok (.aload_n 1, 1) := by decide +kernel
theorem d_IN_isHitBy_11 : decode b_IN_isHitBy 11 = .ok (.getfield 25, 3) := by decide +kernel
theorem d_IN_isHitBy_14 : decode b_IN_isHitBy 14 = .ok (.iload_n 2, 1) := by decide +kernel
theorem d_IN_isHitBy_15 : decode b_IN_isHitBy 15 = .ok (.iaload, 1) := by decide +kernel
theorem d_IN_isHitBy_16 : decode b_IN_isHitBy 16 = .ok (.istore_n 3, 1) := by decide +kernel
theorem d_IN_isHitBy_17 : decode b_IN_isHitBy 17 = .ok (.aload_n 0, 1) := by decide +kernel
theorem d_IN_isHitBy_18 : decode b_IN_isHitBy 18 = .ok (.getfield 43, 3) := by decide +kernel
theorem d_IN_isHitBy_21 : decode b_IN_isHitBy 21 = .ok (.ifCond .ne 14, 3) := by decide +kernel
theorem d_IN_isHitBy_35 : decode b_IN_isHitBy 35 = .ok (.aload_n 0, 1) := by decide +kernel
theorem d_IN_isHitBy_36 : decode b_IN_isHitBy 36 = .ok (.iload_n 3, 1) := by decide +kernel
theorem d_IN_isHitBy_37 : decode b_IN_isHitBy 37 = .ok (.invokevirtual 46, 3) := by decide +kernel
theorem d_IN_isHitBy_40 : decode b_IN_isHitBy 40 = .ok (.ifCond .eq 5, 3) := by decide +kernel
theorem d_IN_isHitBy_45 : decode b_IN_isHitBy 45 = .ok (.iinc 2 1, 3) := by decide +kernel
theorem d_IN_isHitBy_48 : decode b_IN_isHitBy 48 = .ok (.goto (-46), 3) := by decide +kernel
theorem d_IN_isHitBy_43 : decode b_IN_isHitBy 43 = .ok (.iconst 1, 1) := by decide +kernel
theorem d_IN_isHitBy_44 : decode b_IN_isHitBy 44 = .ok (.ireturn, 1) := by decide +kernel
theorem d_IN_isHitBy_24 : decode b_IN_isHitBy 24 = .ok (.aload_n 0, 1) := by decide +kernel
theorem d_IN_isHitBy_25 : decode b_IN_isHitBy 25 = .ok (.iload_n 3, 1) := by decide +kernel
theorem d_IN_isHitBy_26 : decode b_IN_isHitBy 26 = .ok (.invokevirtual 73, 3) := by decide +kernel
theorem d_IN_isHitBy_29 : decode b_IN_isHitBy 29 = .ok (.ifCond .eq 16, 3) := by decide +kernel
theorem d_IN_isHitBy_32 : decode b_IN_isHitBy 32 = .ok (.goto 11, 3) := by decide +kernel
theorem d_IN_readKey_0 : decode b_IN_readKey 0 = .ok (.aload_n 0, 1) := by decide +kernel
theorem d_IN_readKey_1 : decode b_IN_readKey 1 = .ok (.iload_n 1, 1) := by decide +kernel
theorem d_IN_readKey_2 : decode b_IN_readKey 2 = .ok (.invokevirtual 46, 3) := by decide +kernel
theorem d_IN_readKey_5 : decode b_IN_readKey 5 = .ok (.ifCond .ne 11, 3) := by decide +kernel
theorem d_IN_readKey_16 : decode b_IN_readKey 16 = .ok (.return_, 1) := by decide +kernel
theorem d_IN_readKey_8 : decode b_IN_readKey 8 = .ok (.aload_n 0, 1) := by decide +kernel
theorem d_IN_readKey_9 : decode b_IN_readKey 9 = .ok (.getfield 12, 3) := by decide +kernel
theorem d_IN_readKey_12 : decode b_IN_readKey 12 = .ok (.iload_n 1, 1) := by decide +kernel
theorem d_IN_readKey_13 : decode b_IN_readKey 13 = .ok (.invokevirtual 50, 3) := by decide +kernel
theorem d_IN_readPart_0 : decode b_IN_readPart 0 = .ok (.aload_n 0, 1) := by decide +kernel
theorem d_IN_readPart_1 : decode b_IN_readPart 1 = .ok (.getfield 54, 3) := by decide +kernel
theorem d_IN_readPart_4 : decode b_IN_readPart 4 = .ok (.bipush 8, 2) := by decide +kernel
theorem d_IN_readPart_6 : decode b_IN_readPart 6 = .ok (.if_icmp .ge 33, 3) := by decide +kernel
theorem d_IN_readPart_9 : decode b_IN_readPart 9 = .ok (.aload_n 0, 1) := by decide +kernel
theorem d_IN_readPart_10 : decode b_IN_readPart 10 = .ok (.getfield 18, 3) := by decide +kernel
theorem d_IN_readPart_13 : decode b_IN_readPart 13 = .ok (.aload_n 0, 1) := by decide +kernel
theorem d_IN_readPart_14 : decode b_IN_readPart 14 = .ok (.getfield 54, 3) := by decide +kernel
theorem d_IN_readPart_17 : decode b_IN_readPart 17 = .ok (.iload_n 1, 1) := by decide +kernel
theorem d_IN_readPart_18 : decode b_IN_readPart 18 = .ok (.iastore, 1) := by decide +kernel
theorem d_IN_readPart_19 : decode b_IN_readPart 19 = .ok (.aload_n 0, 1) := by decide +kernel
theorem d_IN_readPart_20 : decode b_IN_readPart 20 = .ok (.getfield 22, 3) := by decide +kernel
theorem d_IN_readPart_23 : decode b_IN_readPart 23 = .ok (.aload_n 0, 1) := by decide +kernel
theorem d_IN_readPart_24 : decode b_IN_readPart 24 = .ok (.getfield 54, 3) := by decide +kernel
theorem d_IN_readPart_27 : decode b_IN_readPart 27 = .ok (.iload_n 2, 1) := by decide +kernel
theorem d_IN_readPart_28 : decode b_IN_readPart 28 = .ok (.iastore, 1) := by decide +kernel
theorem d_IN_readPart_29 : decode b_IN_readPart 29 = .ok (.aload_n 0, 1) := by decide +kernel
theorem d_IN_readPart_30 : decode b_IN_readPart 30 = .ok (.dup, 1) := by decide +kernel
theorem d_IN_readPart_31 : decode b_IN_readPart 31 = .ok (.getfield 54, 3) := by decide +kernel
theorem d_IN_readPart_34 : decode b_IN_readPart 34 = .ok (.iconst 1, 1) := by decide +kernel
theorem d_IN_readPart_35 : decode b_IN_readPart 35 = .ok (.iadd, 1) := by decide +kernel
theorem d_IN_readPart_36 : decode b_IN_readPart 36 = .ok (.putfield 54, 3) := by decide +kernel
theorem d_IN_readPart_39 : decode b_IN_readPart 39 = .ok (.return_, 1) := by decide +kernel
theorem d_IN_write_0 : decode b_IN_write 0 = .ok (.aload_n 0, 1) := by decide +kernel
theorem d_IN_write_1 : decode b_IN_write 1 = .ok (.iload_n 1, 1) := by decide +kernel
theorem d_IN_write_2 : decode b_IN_write 2 = .ok (.invokevirtual 57, 3) := by decide +kernel
theorem d_IN_write_5 : decode b_IN_write 5 = .ok (.istore 5, 2) := by decide +kernel
theorem d_IN_write_7 : decode b_IN_write 7 = .ok (.iload 5, 2) := by decide +kernel
theorem d_IN_write_9 : decode b_IN_write 9 = .ok (.bipush 8, 2) := by decide +kernel
theorem d_IN_write_11 : decode b_IN_write 11 = .ok (.if_icmp .lt 4, 3) := by decide +kernel
theorem d_IN_write_15 : decode b_IN_write 15 = .ok (.aload_n 0, 1) := by decide +kernel
theorem d_IN_write_16 : decode b_IN_write 16 = .ok (.getfield 25, 3) := by decide +kernel
theorem d_IN_write_19 : decode b_IN_write 19 = .ok (.iload 5, 2) := by decide +kernel
theorem d_IN_write_21 : decode b_IN_write 21 = .ok (.iload_n 1, 1) := by decide +kernel
theorem d_IN_write_22 : decode b_IN_write 22 = .ok (.iastore, 1) := by decide +kernel
theorem d_IN_write_23 : decode b_IN_write 23 = .ok (.aload_n 0, 1) := by decide +kernel
theorem d_IN_write_24 : decode b_IN_write 24 = .ok (.getfield 28, 3) := by decide +kernel
theorem d_IN_write_27 : decode b_IN_write 27 = .ok (.iload 5, 2) := by decide +kernel
theorem d_IN_write_29 : decode b_IN_write 29 = .ok (.iload_n 2, 1) := by decide +kernel
theorem d_IN_write_30 : decode b_IN_write 30 = .ok (.bastore, 1) := by decide +kernel
theorem d_IN_write_31 : decode b_IN_write 31 = .ok (.aload_n 0, 1) := by decide +kernel
theorem d_IN_write_32 : decode b_IN_write 32 = .ok (.getfield 32, 3) := by decide +kernel
theorem d_IN_write_35 : decode b_IN_write 35 = .ok (.iload 5, 2) := by decide +kernel
theorem d_IN_write_37 : decode b_IN_write 37 = .ok (.lload_n 3, 1) := by decide +kernel
theorem d_IN_write_38 : decode b_IN_write 38 = .ok (.lastore, 1) := by decide +kernel
theorem d_IN_write_39 : decode b_IN_write 39 = .ok (.aload_n 0, 1) := by decide +kernel
theorem d_IN_write_40 : decode b_IN_write 40 = .ok (.aload_n 0, 1) := by decide +kernel
theorem d_IN_write_41 : decode b_IN_write 41 = .ok (.getfield 61, 3) := by decide +kernel
theorem d_IN_write_44 : decode b_IN_write 44 = .ok (.iload 5, 2) := by decide +kernel
theorem d_IN_write_46 : decode b_IN_write 46 = .ok (.iconst 1, 1) := by decide +kernel
theorem d_IN_write_47 : decode b_IN_write 47 = .ok (.iadd, 1) := by decide +kernel
theorem d_IN_write_48 : decode b_IN_write 48 = .ok (.invokestatic 64, 3) := by decide +kernel
theorem d_IN_write_51 : decode b_IN_write 51 = .ok (.putfield 61, 3) := by decide +kernel
theorem d_IN_write_54 : decode b_IN_write 54 = .ok (.return_, 1) := by decide +kernel
theorem d_IN_writeInto_0 : decode b_IN_writeInto 0 = .ok (.iconst 0, 1) := by decide +kernel
theorem d_IN_writeInto_1 : decode b_IN_writeInto 1 = .ok (.istore_n 2, 1) := by decide +kernel
theorem d_IN_writeInto_2 : decode b_IN_writeInto 2 = .ok (.iload_n 2, 1) := by decide +kernel
theorem d_IN_writeInto_3 : decode b_IN_writeInto 3 = .ok (.aload_n 0, 1) := by decide +kernel
theorem d_IN_writeInto_4 : decode b_IN_writeInto 4 = .ok (.getfield 61, 3) := by decide +kernel
theorem d_IN_writeInto_7 : decode b_IN_writeInto 7 = .ok (.if_icmp .ge 47, 3) := by decide +kernel
theorem d_IN_writeInto_54 : decode b_IN_writeInto 54 = .ok (.return_, 1) := by decide +kernel
theorem d_IN_writeInto_10 : decode b_IN_writeInto 10 = .ok (.aload_n 0, 1) := by decide +kernel
theorem d_IN_writeInto_11 : decode b_IN_writeInto 11 = .ok (.getfield 28, 3) := by decide +kernel
theorem d_IN_writeInto_14 : decode b_IN_writeInto 14 = .ok (.iload_n 2, 1) := by decide +kernel
theorem d_IN_writeInto_15 : decode b_IN_writeInto 15 = .ok (.baload, 1) := by decide +kernel
theorem d_IN_writeInto_16 : decode b_IN_writeInto 16 = .ok (.ifCond .eq 22, 3) := by decide +kernel
theorem d_IN_writeInto_38 : decode b_IN_writeInto 38 = .ok (.aload_n 1, 1) := by decide +kernel
theorem d_IN_writeInto_39 : decode b_IN_writeInto 39 = .ok (.aload_n 0, 1) := by decide +kernel
theorem d_IN_writeInto_40 : decode b_IN_writeInto 40 = .ok (.getfield 25, 3) := by decide +kernel
theorem d_IN_writeInto_43 : decode b_IN_writeInto 43 = .ok (.iload_n 2, 1) := by decide +kernel
theorem d_IN_writeInto_44 : decode b_IN_writeInto 44 = .ok (.iaload, 1) := by decide +kernel
theorem d_IN_writeInto_45 : decode b_IN_writeInto 45 = .ok (.invokevirtual 82, 3) := by decide +kernel
theorem d_IN_writeInto_48 : decode b_IN_writeInto 48 = .ok (.iinc 2 1, 3) := by decide +kernel
theorem d_IN_writeInto_51 : decode b_IN_writeInto 51 = .ok (.goto (-49), 3) := by decide +kernel
theorem d_IN_writeInto_19 : decode b_IN_writeInto 19 = .ok (.aload_n 1, 1) := by decide +kernel
theorem d_IN_writeInto_20 : decode b_IN_writeInto 20 = .ok (.aload_n 0, 1) := by decide +kernel
theorem d_IN_writeInto_21 : decode b_IN_writeInto 21 = .ok (.getfield 25, 3) := by decide +kernel
theorem d_IN_writeInto_24 : decode b_IN_writeInto 24 = .ok (.iload_n 2, 1) := by decide +kernel
theorem d_IN_writeInto_25 : decode b_IN_writeInto 25 = .ok (.iaload, 1) := by decide +kernel
theorem d_IN_writeInto_26 : decode b_IN_writeInto 26 = .ok (.aload_n 0, 1) := by decide +kernel
theorem d_IN_writeInto_27 : decode b_IN_writeInto 27 = .ok (.getfield 32, 3) := by decide +kernel
theorem d_IN_writeInto_30 : decode b_IN_writeInto 30 = .ok (.iload_n 2, 1) := by decide +kernel
theorem d_IN_writeInto_31 : decode b_IN_writeInto 31 = .ok (.laload, 1) := by decide +kernel
theorem d_IN_writeInto_32 : decode b_IN_writeInto 32 = .ok (.invokevirtual 76, 3) := by decide +kernel
theorem d_IN_writeInto_35 : decode b_IN_writeInto 35 = .ok (.goto 13, 3) := by decide +kernel
theorem d_IN_signInto_0 : decode b_IN_signInto 0 = .ok (.iconst 0, 1) := by decide +kernel
theorem d_IN_signInto_1 : decode b_IN_signInto 1 = .ok (.istore_n 3, 1) := by decide +kernel
theorem d_IN_signInto_2 : decode b_IN_signInto 2 = .ok (.iload_n 3, 1) := by decide +kernel
theorem d_IN_signInto_3 : decode b_IN_signInto 3 = .ok (.aload_n 0, 1) := by decide +kernel
theorem d_IN_signInto_4 : decode b_IN_signInto 4 = .ok (.getfield 61, 3) := by decide +kernel
theorem d_IN_signInto_7 : decode b_IN_signInto 7 = .ok (.if_icmp .ge 18, 3) := by decide +kernel
theorem d_IN_signInto_25 : decode b_IN_signInto 25 = .ok (.return_, 1) := by decide +kernel
theorem d_IN_signInto_10 : decode b_IN_signInto 10 = .ok (.aload_n 1, 1) := by decide +kernel
theorem d_IN_signInto_11 : decode b_IN_signInto 11 = .ok (.aload_n 0, 1) := by decide +kernel
theorem d_IN_signInto_12 : decode b_IN_signInto 12 = .ok (.getfield 25, 3) := by decide +kernel
theorem d_IN_signInto_15 : decode b_IN_signInto 15 = .ok (.iload_n 3, 1) := by decide +kernel
theorem d_IN_signInto_16 : decode b_IN_signInto 16 = .ok (.iaload, 1) := by decide +kernel
theorem d_IN_signInto_17 : decode b_IN_signInto 17 = .ok (.iload_n 2, 1) := by decide +kernel
theorem d_IN_signInto_18 : decode b_IN_signInto 18 = .ok (.iastore, 1) := by decide +kernel
theorem d_IN_signInto_19 : decode b_IN_signInto 19 = .ok (.iinc 3 1, 3) := by decide +kernel
theorem d_IN_signInto_22 : decode b_IN_signInto 22 = .ok (.goto (-20), 3) := by decide +kernel
theorem d_IN_tell_0 : decode b_IN_tell 0 = .ok (.iload_n 1, 1) := by decide +kernel
theorem d_IN_tell_1 : decode b_IN_tell 1 = .ok (.tableswitch 63 0 4 #[35, 40, 45, 53, 58], 35) := by decide +kernel
theorem d_IN_tell_36 : decode b_IN_tell 36 = .ok (.aload_n 0, 1) := by decide +kernel
theorem d_IN_tell_37 : decode b_IN_tell 37 = .ok (.getfield 40, 3) := by decide +kernel
theorem d_IN_tell_40 : decode b_IN_tell 40 = .ok (.ireturn, 1) := by decide +kernel
theorem d_IN_tell_41 : decode b_IN_tell 41 = .ok (.aload_n 0, 1) := by decide +kernel
theorem d_IN_tell_42 : decode b_IN_tell 42 = .ok (.getfield 43, 3) := by decide +kernel
theorem d_IN_tell_45 : decode b_IN_tell 45 = .ok (.ireturn, 1) := by decide +kernel
theorem d_IN_tell_46 : decode b_IN_tell 46 = .ok (.aload_n 0, 1) := by decide +kernel
theorem d_IN_tell_47 : decode b_IN_tell 47 = .ok (.getfield 12, 3) := by decide +kernel
theorem d_IN_tell_50 : decode b_IN_tell 50 = .ok (.invokevirtual 85, 3) := by decide +kernel
theorem d_IN_tell_53 : decode b_IN_tell 53 = .ok (.ireturn, 1) := by decide +kernel
theorem d_IN_tell_54 : decode b_IN_tell 54 = .ok (.aload_n 0, 1) := by decide +kernel
theorem d_IN_tell_55 : decode b_IN_tell 55 = .ok (.getfield 54, 3) := by decide +kernel
theorem d_IN_tell_58 : decode b_IN_tell 58 = .ok (.ireturn, 1) := by decide +kernel
theorem d_IN_tell_59 : decode b_IN_tell 59 = .ok (.aload_n 0, 1) := by decide +kernel
theorem d_IN_tell_60 : decode b_IN_tell 60 = .ok (.getfield 61, 3) := by decide +kernel
theorem d_IN_tell_63 : decode b_IN_tell 63 = .ok (.ireturn, 1) := by decide +kernel
theorem d_IN_tell_64 : decode b_IN_tell 64 = .ok (.aload_n 0, 1) := by decide +kernel
theorem d_IN_tell_65 : decode b_IN_tell 65 = .ok (.getfield 36, 3) := by decide +kernel
theorem d_IN_tell_68 : decode b_IN_tell 68 = .ok (.ireturn, 1) := by decide +kernel
theorem d_SV_init_0 : decode b_SV_init 0 = .ok (.aload_n 0, 1) := by decide +kernel
theorem d_SV_init_1 : decode b_SV_init 1 = .ok (.invokespecial 3, 3) := by decide +kernel
theorem d_SV_init_4 : decode b_SV_init 4 = .ok (.aload_n 0, 1) := by decide +kernel
theorem d_SV_init_5 : decode b_SV_init 5 = .ok (.new 9, 3) := by decide +kernel
theorem d_SV_init_8 : decode b_SV_init 8 = .ok (.dup, 1) := by decide +kernel
theorem d_SV_init_9 : decode b_SV_init 9 = .ok (.invokespecial 11, 3) := by decide +kernel
theorem d_SV_init_12 : decode b_SV_init 12 = .ok (.putfield 12, 3) := by decide +kernel
theorem d_SV_init_15 : decode b_SV_init 15 = .ok (.aload_n 0, 1) := by decide +kernel
theorem d_SV_init_16 : decode b_SV_init 16 = .ok (.sipush 256, 3) := by decide +kernel
theorem d_SV_init_19 : decode b_SV_init 19 = .ok (.newarray .int, 2) := by decide +kernel
theorem d_SV_init_21 : decode b_SV_init 21 = .ok (.putfield 18, 3) := by decide +kernel
theorem d_SV_init_24 : decode b_SV_init 24 = .ok (.aload_n 0, 1) := by decide +kernel
theorem d_SV_init_25 : decode b_SV_init 25 = .ok (.getfield 18, 3) := by decide +kernel
theorem d_SV_init_28 : decode b_SV_init 28 = .ok (.iconst (-1), 1) := by decide +kernel
theorem d_SV_init_29 : decode b_SV_init 29 = .ok (.invokestatic 22, 3) := by decide +kernel
theorem d_SV_init_32 : decode b_SV_init 32 = .ok (.return_, 1) := by decide +kernel
theorem d_SV_startOver_0 : decode b_SV_startOver 0 = .ok (.aload_n 0, 1) := by decide +kernel
theorem d_SV_startOver_1 : decode b_SV_startOver 1 = .ok (.getfield 12, 3) := by decide +kernel
theorem d_SV_startOver_4 : decode b_SV_startOver 4 = .ok (.invokevirtual 48, 3) := by decide +kernel
theorem d_SV_startOver_7 : decode b_SV_startOver 7 = .ok (.aload_n 0, 1) := by decide +kernel
theorem d_SV_startOver_8 : decode b_SV_startOver 8 = .ok (.getfield 18, 3) := by decide +kernel
theorem d_SV_startOver_11 : decode b_SV_startOver 11 = .ok (.iconst (-1), 1) := by decide +kernel
theorem d_SV_startOver_12 : decode b_SV_startOver 12 = .ok (.invokestatic 22, 3) := by decide +kernel
theorem d_SV_startOver_15 : decode b_SV_startOver 15 = .ok (.aload_n 0, 1) := by decide +kernel
theorem d_SV_startOver_16 : decode b_SV_startOver 16 = .ok (.iconst 0, 1) := by decide +kernel
theorem d_SV_startOver_17 : decode b_SV_startOver 17 = .ok (.putfield 38, 3) := by decide +kernel
theorem d_SV_startOver_20 : decode b_SV_startOver 20 = .ok (.aload_n 0, 1) := by decide +kernel
theorem d_SV_startOver_21 : decode b_SV_startOver 21 = .ok (.iconst 0, 1) := by decide +kernel
theorem d_SV_startOver_22 : decode b_SV_startOver 22 = .ok (.putfield 45, 3) := by decide +kernel
theorem d_SV_startOver_25 : decode b_SV_startOver 25 = .ok (.return_, 1) := by decide +kernel
theorem d_SV_goThrough_0 : decode b_SV_goThrough 0 = .ok (.aload_n 1, 1) := by decide +kernel
theorem d_SV_goThrough_1 : decode b_SV_goThrough 1 = .ok (.getfield 28, 3) := by decide +kernel
theorem d_SV_goThrough_4 : decode b_SV_goThrough 4 = .ok (.ifCond .eq 33, 3) := by decide +kernel
theorem d_SV_goThrough_37 : decode b_SV_goThrough 37 = .ok (.aload_n 0, 1) := by decide +kernel
theorem d_SV_goThrough_38 : decode b_SV_goThrough 38 = .ok (.dup, 1) := by decide +kernel
theorem d_SV_goThrough_39 : decode b_SV_goThrough 39 = .ok (.getfield 38, 3) := by decide +kernel
theorem d_SV_goThrough_42 : decode b_SV_goThrough 42 = .ok (.iconst 1, 1) := by decide +kernel
theorem d_SV_goThrough_43 : decode b_SV_goThrough 43 = .ok (.iadd, 1) := by decide +kernel
theorem d_SV_goThrough_44 : decode b_SV_goThrough 44 = .ok (.putfield 38, 3) := by decide +kernel
theorem d_SV_goThrough_47 : decode b_SV_goThrough 47 = .ok (.return_, 1) := by decide +kernel
theorem d_SV_goThrough_7 : decode b_SV_goThrough 7 = .ok (.aload_n 1, 1) := by decide +kernel
theorem d_SV_goThrough_8 : decode b_SV_goThrough 8 = .ok (.aload_n 0, 1) := by decide +kernel
theorem d_SV_goThrough_9 : decode b_SV_goThrough 9 = .ok (.getfield 12, 3) := by decide +kernel
theorem d_SV_goThrough_12 : decode b_SV_goThrough 12 = .ok (.invokevirtual 34, 3) := by decide +kernel
theorem d_SV_goThrough_15 : decode b_SV_goThrough 15 = .ok (.aload_n 1, 1) := by decide +kernel
theorem d_SV_goThrough_16 : decode b_SV_goThrough 16 = .ok (.aload_n 0, 1) := by decide +kernel
theorem d_SV_goThrough_17 : decode b_SV_goThrough 17 = .ok (.getfield 18, 3) := by decide +kernel
theorem d_SV_goThrough_20 : decode b_SV_goThrough 20 = .ok (.aload_n 0, 1) := by decide +kernel
theorem d_SV_goThrough_21 : decode b_SV_goThrough 21 = .ok (.getfield 38, 3) := by decide +kernel
theorem d_SV_goThrough_24 : decode b_SV_goThrough 24 = .ok (.invokevirtual 42, 3) := by decide +kernel
theorem d_SV_goThrough_27 : decode b_SV_goThrough 27 = .ok (.aload_n 0, 1) := by decide +kernel
theorem d_SV_goThrough_28 : decode b_SV_goThrough 28 = .ok (.dup, 1) := by decide +kernel
theorem d_SV_goThrough_29 : decode b_SV_goThrough 29 = .ok (.getfield 45, 3) := by decide +kernel
theorem d_SV_goThrough_32 : decode b_SV_goThrough 32 = .ok (.iconst 1, 1) := by decide +kernel
theorem d_SV_goThrough_33 : decode b_SV_goThrough 33 = .ok (.iadd, 1) := by decide +kernel
theorem d_SV_goThrough_34 : decode b_SV_goThrough 34 = .ok (.putfield 45, 3) := by decide +kernel
set_option maxHeartbeats 4000000 in
set_option maxRecDepth 100000 in
theorem c_IN_init {l : Launch} {b : Nat} {dC : Nat → ClassId} {dI : Nat → Nat → Nat} {dA : Nat → ClassId} {zs : Nat → Nat} {w : mh_w} {k i a sv sn lv : Nat} (h : w k i = some (a, .inr (2, [.int (nI 0), .int (nI 0), .int (nI 0), .null, .null, .null, .null, .null, .null, .int (nI 0), .int (nI 0), .int (nI 0)]))) : mh_Met l b dC dI dA zs y_IN_init (mh_rm 2 7 45) [.ref a, .int (nI sv), .int (nI sn), .int (nI lv)] w (mh_V none (fun w' => rI dA w' k i a (st_new sv sn lv) ∧ mh_F w w' k 8 i)) := by
  refine mh_ofW (cc := b_IN_init) (n := 4) (ret := none) (hs := []) (by decide) k234 ?_
  intro p e s m below meth c hx hb hr hml hown hts hlocks hnm hT hOK hadm
  have K0 : mh_K0 p s m ([.ref a, .int (nI sv), .int (nI sn), .int (nI lv)]).toArray c "MeldHost$Intention" b_IN_init dC dI dA := ⟨hx, hb, hown, hts, hOK.1, hOK.2.1⟩
  have hX := hOK.2.2.2.2
  have hb0 := hOK.2.2.2.1
  have hS : va_S (mh_A b) s.heap s.heap [] := va_S.rf
  have hl := lv_entry ([.ref a, .int (nI sv), .int (nI sn), .int (nI lv)]) (n := 4) (Nat.le_of_ble_eq_true rfl)
  rw [lg_entry_eq]
  generalize (lg_sl ([.ref a, .int (nI sv), .int (nI sn), .int (nI lv)]) ++ List.replicate (4 - (lg_sl ([.ref a, .int (nI sv), .int (nI sn), .int (nI lv)])).length) Slot.unset).toArray = ls at hl ⊢
  have hl : lv_has ls 4 [(0, .ref a), (1, .int (nI sv)), (2, .int (nI sn)), (3, .int (nI lv))] := hl
  refine lv_aload_n hx hb d_IN_init_0 rfl (lv_at hl 0 rfl) ?_
  refine W.objInit hx hb hown (hts _ k235) (hts _ k31) (hts _ k32) rfl (by rw [hml]; exact hl.1) rfl d_IN_init_1 (Nat.le_of_ble_eq_true rfl) (Nat.le_of_ble_eq_true rfl) ?_
  refine W.eq (g2 := F0 m 4 ls []) rfl ?_
  refine lv_aload_n hx hb d_IN_init_4 rfl (lv_at hl 0 rfl) ?_
  refine mh_new (k + 1) i K0 hX hS hb0 (ci := 0) rfl i_KS ty_KS ty_KS_ok k236 k73 k7 (fs := [.null]) (by decide) (Nat.le_of_ble_eq_true rfl) (Nat.le_of_ble_eq_true rfl) d_IN_init_5 (fun q1 H hX hS => ?_)
  have fs14 := mh_self hX
  refine lv_dup hx hb d_IN_init_8 rfl ?_
  refine mh_callV (mh_sI (rest := [.ref q1, .ref a]) (av := []) K0 e_KS_init l_IN_11 k75 rfl rfl rfl d_IN_init_9) (c_KS_init (mh_set_eq _ _ _ _)) K0 hOK hml hl.1 e_KS_init hX hS d_IN_init_9 (Nat.le_of_ble_eq_true rfl) (Nat.le_of_ble_eq_true rfl) (Nat.le_of_ble_eq_true rfl) (Nat.le_of_ble_eq_true rfl) (Nat.le_of_ble_eq_true rfl) (fun w1 H locs ⟨hK, hF⟩ hX hS => ?_)
  refine W.eq (g2 := F0 m 12 ls [.ref q1, .ref a]) rfl ?_
  refine mh_putF K0 hX hS ((hF k i (by omega)).trans (mh_kp h (by omega))) f_IN_12 p_2_3 hnm (fun C T N h => by cases h; rfl) rfl rfl (Nat.le_of_ble_eq_true rfl) d_IN_init_12 (fun C T N h => by cases h; exact k243) (fun H locs hX hS => ?_)
  have hX : mh_P (dC, dI) b (mh_set _ k i (some (a, .inr (2, [.int (nI 0), .int (nI 0), .int (nI 0), .ref q1, .null, .null, .null, .null, .null, .int (nI 0), .int (nI 0), .int (nI 0)])))) H := hX
  have fs15 := mh_self hX
  refine lv_aload_n hx hb d_IN_init_15 rfl (lv_at hl 0 rfl) ?_
  refine lv_bipush (v := nI 8) hx hb d_IN_init_16 (by decide) ?_
  refine mh_newa (k + 3) i 0 K0 hX hS hb0 (ty := .int) rfl rfl k112 (N' := 8) (a0 := (8, .inl (fun _ => 0))) (fun cA => rfl) (by decide) (by decide) (by decide) (Nat.le_of_ble_eq_true rfl) (Nat.le_of_ble_eq_true rfl) d_IN_init_18 (fun q3 H hX hS => ?_)
  have fs16 := mh_self hX
  refine mh_putF K0 hX hS (mh_kp fs15 (by omega)) f_IN_18 p_2_4 hnm (fun C T N h => by cases h; rfl) rfl rfl (Nat.le_of_ble_eq_true rfl) d_IN_init_20 (fun C T N h => by cases h; exact k244) (fun H locs hX hS => ?_)
  have hX : mh_P (dC, dI) b (mh_set _ k i (some (a, .inr (2, [.int (nI 0), .int (nI 0), .int (nI 0), .ref q1, .ref q3, .null, .null, .null, .null, .int (nI 0), .int (nI 0), .int (nI 0)])))) H := hX
  have fs17 := mh_self hX
  refine lv_aload_n hx hb d_IN_init_23 rfl (lv_at hl 0 rfl) ?_
  refine lv_bipush (v := nI 8) hx hb d_IN_init_24 (by decide) ?_
  refine mh_newa (k + 4) i 0 K0 hX hS hb0 (ty := .int) rfl rfl k112 (N' := 8) (a0 := (8, .inl (fun _ => 0))) (fun cA => rfl) (by decide) (by decide) (by decide) (Nat.le_of_ble_eq_true rfl) (Nat.le_of_ble_eq_true rfl) d_IN_init_26 (fun q4 H hX hS => ?_)
  have fs18 := mh_self hX
  refine mh_putF K0 hX hS (mh_kp fs17 (by omega)) f_IN_22 p_2_5 hnm (fun C T N h => by cases h; rfl) rfl rfl (Nat.le_of_ble_eq_true rfl) d_IN_init_28 (fun C T N h => by cases h; exact k245) (fun H locs hX hS => ?_)
  have hX : mh_P (dC, dI) b (mh_set _ k i (some (a, .inr (2, [.int (nI 0), .int (nI 0), .int (nI 0), .ref q1, .ref q3, .ref q4, .null, .null, .null, .int (nI 0), .int (nI 0), .int (nI 0)])))) H := hX
  have fs19 := mh_self hX
  refine lv_aload_n hx hb d_IN_init_31 rfl (lv_at hl 0 rfl) ?_
  refine lv_bipush (v := nI 8) hx hb d_IN_init_32 (by decide) ?_
  refine mh_newa (k + 5) i 0 K0 hX hS hb0 (ty := .int) rfl rfl k112 (N' := 8) (a0 := (8, .inl (fun _ => 0))) (fun cA => rfl) (by decide) (by decide) (by decide) (Nat.le_of_ble_eq_true rfl) (Nat.le_of_ble_eq_true rfl) d_IN_init_34 (fun q5 H hX hS => ?_)
  have fs20 := mh_self hX
  refine mh_putF K0 hX hS (mh_kp fs19 (by omega)) f_IN_25 p_2_6 hnm (fun C T N h => by cases h; rfl) rfl rfl (Nat.le_of_ble_eq_true rfl) d_IN_init_36 (fun C T N h => by cases h; exact k246) (fun H locs hX hS => ?_)
  have hX : mh_P (dC, dI) b (mh_set _ k i (some (a, .inr (2, [.int (nI 0), .int (nI 0), .int (nI 0), .ref q1, .ref q3, .ref q4, .ref q5, .null, .null, .int (nI 0), .int (nI 0), .int (nI 0)])))) H := hX
  have fs21 := mh_self hX
  refine lv_aload_n hx hb d_IN_init_39 rfl (lv_at hl 0 rfl) ?_
  refine lv_bipush (v := nI 8) hx hb d_IN_init_40 (by decide) ?_
  refine mh_newa (k + 6) i 2 K0 hX hS hb0 (ty := .boolean) rfl rfl k280 (N' := 8) (a0 := (8, .inl (fun _ => 0))) (fun cA => rfl) (by decide) (by decide) (by decide) (Nat.le_of_ble_eq_true rfl) (Nat.le_of_ble_eq_true rfl) d_IN_init_42 (fun q6 H hX hS => ?_)
  have fs22 := mh_self hX
  refine mh_putF K0 hX hS (mh_kp fs21 (by omega)) f_IN_28 p_2_7 hnm (fun C T N h => by cases h; rfl) rfl rfl (Nat.le_of_ble_eq_true rfl) d_IN_init_44 (fun C T N h => by cases h; exact k247) (fun H locs hX hS => ?_)
  have hX : mh_P (dC, dI) b (mh_set _ k i (some (a, .inr (2, [.int (nI 0), .int (nI 0), .int (nI 0), .ref q1, .ref q3, .ref q4, .ref q5, .ref q6, .null, .int (nI 0), .int (nI 0), .int (nI 0)])))) H := hX
  have fs23 := mh_self hX
  refine lv_aload_n hx hb d_IN_init_47 rfl (lv_at hl 0 rfl) ?_
  refine lv_bipush (v := nI 8) hx hb d_IN_init_48 (by decide) ?_
  refine mh_newa (k + 7) i 1 K0 hX hS hb0 (ty := .long) rfl rfl k82 (N' := 8) (a0 := (8, .inr (.inl (fun _ => 0)))) (fun cA => rfl) (by decide) (by decide) (by decide) (Nat.le_of_ble_eq_true rfl) (Nat.le_of_ble_eq_true rfl) d_IN_init_50 (fun q7 H hX hS => ?_)
  have fs24 := mh_self hX
  refine mh_putF K0 hX hS (mh_kp fs23 (by omega)) f_IN_32 p_2_8 hnm (fun C T N h => by cases h; rfl) rfl rfl (Nat.le_of_ble_eq_true rfl) d_IN_init_52 (fun C T N h => by cases h; exact k248) (fun H locs hX hS => ?_)
  have hX : mh_P (dC, dI) b (mh_set _ k i (some (a, .inr (2, [.int (nI 0), .int (nI 0), .int (nI 0), .ref q1, .ref q3, .ref q4, .ref q5, .ref q6, .ref q7, .int (nI 0), .int (nI 0), .int (nI 0)])))) H := hX
  have fs25 := mh_self hX
  refine lv_aload_n hx hb d_IN_init_55 rfl (lv_at hl 0 rfl) ?_
  refine lv_iload_n hx hb d_IN_init_56 rfl (lv_at hl 1 rfl) ?_
  refine mh_putF K0 hX hS fs25 f_IN_36 p_2_0 hnm (fun C T N h => by cases h; rfl) rfl rfl (Nat.le_of_ble_eq_true rfl) d_IN_init_57 (fun C T N h => by cases h; exact k238) (fun H locs hX hS => ?_)
  have hX : mh_P (dC, dI) b (mh_set _ k i (some (a, .inr (2, [.int (nI sv), .int (nI 0), .int (nI 0), .ref q1, .ref q3, .ref q4, .ref q5, .ref q6, .ref q7, .int (nI 0), .int (nI 0), .int (nI 0)])))) H := hX
  have fs26 := mh_self hX
  refine lv_aload_n hx hb d_IN_init_60 rfl (lv_at hl 0 rfl) ?_
  refine lv_iload_n hx hb d_IN_init_61 rfl (lv_at hl 2 rfl) ?_
  refine mh_putF K0 hX hS fs26 f_IN_40 p_2_1 hnm (fun C T N h => by cases h; rfl) rfl rfl (Nat.le_of_ble_eq_true rfl) d_IN_init_62 (fun C T N h => by cases h; exact k240) (fun H locs hX hS => ?_)
  have hX : mh_P (dC, dI) b (mh_set _ k i (some (a, .inr (2, [.int (nI sv), .int (nI sn), .int (nI 0), .ref q1, .ref q3, .ref q4, .ref q5, .ref q6, .ref q7, .int (nI 0), .int (nI 0), .int (nI 0)])))) H := hX
  have fs27 := mh_self hX
  refine lv_aload_n hx hb d_IN_init_65 rfl (lv_at hl 0 rfl) ?_
  refine lv_iload_n hx hb d_IN_init_66 rfl (lv_at hl 3 rfl) ?_
  refine mh_putF K0 hX hS fs27 f_IN_43 p_2_2 hnm (fun C T N h => by cases h; rfl) rfl rfl (Nat.le_of_ble_eq_true rfl) d_IN_init_67 (fun C T N h => by cases h; exact k242) (fun H locs hX hS => ?_)
  have hX : mh_P (dC, dI) b (mh_set _ k i (some (a, .inr (2, [.int (nI sv), .int (nI sn), .int (nI lv), .ref q1, .ref q3, .ref q4, .ref q5, .ref q6, .ref q7, .int (nI 0), .int (nI 0), .int (nI 0)])))) H := hX
  have fs28 := mh_self hX
  exact mh_vret K0 hr hlocks hX hS (⟨rfl, ⟨q1, q3, q4, q5, q6, q7, _, _, _, _, _, fs28, hK.to (fun z hz => by repeat rw [mh_set_ne _ _ _ _ (by omega)]) (fun j _ => rfl), (mh_kp (mh_kp (mh_kp (mh_kp (mh_kp (mh_kp (mh_kp (mh_kp (mh_kp (mh_kp (mh_kp (mh_kp fs16 (by omega)) (by omega)) (by omega)) (by omega)) (by omega)) (by omega)) (by omega)) (by omega)) (by omega)) (by omega)) (by omega)) (by omega)), (mh_kp (mh_kp (mh_kp (mh_kp (mh_kp (mh_kp (mh_kp (mh_kp (mh_kp (mh_kp fs18 (by omega)) (by omega)) (by omega)) (by omega)) (by omega)) (by omega)) (by omega)) (by omega)) (by omega)) (by omega)), (mh_kp (mh_kp (mh_kp (mh_kp (mh_kp (mh_kp (mh_kp (mh_kp fs20 (by omega)) (by omega)) (by omega)) (by omega)) (by omega)) (by omega)) (by omega)) (by omega)), (mh_kp (mh_kp (mh_kp (mh_kp (mh_kp (mh_kp fs22 (by omega)) (by omega)) (by omega)) (by omega)) (by omega)) (by omega)), (mh_kp (mh_kp (mh_kp (mh_kp fs24 (by omega)) (by omega)) (by omega)) (by omega)), fun j hj => absurd hj (Nat.not_lt_zero j), fun j hj => absurd hj (Nat.not_lt_zero j)⟩, (((((((((((((((mh_F.tr (k := k) (n := 8) (k1 := k) (n1 := 8) (mh_F.rf.set (by omega) (by omega)) hF (by omega) (by omega) (by omega) (by omega)).set (by omega) (by omega)).set (by omega) (by omega)).set (by omega) (by omega)).set (by omega) (by omega)).set (by omega) (by omega)).set (by omega) (by omega)).set (by omega) (by omega)).set (by omega) (by omega)).set (by omega) (by omega)).set (by omega) (by omega)).set (by omega) (by omega)).set (by omega) (by omega)).set (by omega) (by omega)).set (by omega) (by omega))⟩) (Nat.le_of_ble_eq_true rfl) (Nat.le_of_ble_eq_true rfl) d_IN_init_70
set_option maxHeartbeats 4000000 in
set_option maxRecDepth 100000 in
theorem c_IN_placeOf {l : Launch} {b : Nat} {dC : Nat → ClassId} {dI : Nat → Nat → Nat} {dA : Nat → ClassId} {zs : Nat → Nat} {w : mh_w} {k i a m0 : Nat} {x : st_I} (h : rI dA w k i a x) (ho : iv_ok m0 x) {key : Nat} (hk : key < 256) : mh_Met l b dC dI dA zs y_IN_placeOf (mh_rm 0 0 0) [.ref a, .int (nI key)] w (mh_V (some (.int (nI (st_pl (iv_wk x) key (iv_nw x))))) (fun w' => w' = w)) := by
  have hI := h
  obtain ⟨a1, a3, a4, a5, a6, a7, lo, hi, wk, hn, nn, i0, hK, i3, i4, i5, i6, i7, hlo, hwk⟩ := h
  have hK2 := hK
  obtain ⟨kb1, kfb, hk0, hk1, hkf⟩ := hK2
  obtain ⟨o1, o2, o3, o4, o5, o6, o7, o8⟩ := ho
  refine mh_ofW (cc := b_IN_placeOf) (n := 3) (ret := (some .int)) (hs := []) (by decide) k317 ?_
  intro p e s m below meth c hx hb hr hml hown hts hlocks hnm hT hOK hadm
  have K0 : mh_K0 p s m ([.ref a, .int (nI key)]).toArray c "MeldHost$Intention" b_IN_placeOf dC dI dA := ⟨hx, hb, hown, hts, hOK.1, hOK.2.1⟩
  have hX := hOK.2.2.2.2
  have hb0 := hOK.2.2.2.1
  have hS : va_S (mh_A b) s.heap s.heap [] := va_S.rf
  have hl := lv_entry ([.ref a, .int (nI key)]) (n := 3) (Nat.le_of_ble_eq_true rfl)
  rw [lg_entry_eq]
  generalize (lg_sl ([.ref a, .int (nI key)]) ++ List.replicate (3 - (lg_sl ([.ref a, .int (nI key)])).length) Slot.unset).toArray = ls at hl ⊢
  have hl : lv_has ls 3 [(0, .ref a), (1, .int (nI key))] := hl
  refine lv_iconst (v := nI 0) hx hb d_IN_placeOf_0 (by decide) ?_
  refine lv_istore_n (lv' := [(2, .int (nI 0)), (0, .ref a), (1, .int (nI key))]) hx hb d_IN_placeOf_1 rfl hl (by decide) rfl (fun ls hl => ?_)
  have LP : ∀ (n : Nat) (j : Nat) (H : Heap) (locs : List Loc) (ls : Array Slot), mh_P (dC, dI) b w H → va_S (mh_A b) s.heap H locs → lv_has ls 3 [(2, .int (nI j)), (0, .ref a), (1, .int (nI key))] → (j + n = iv_nw x) → (∀ z, z < j → iv_wk x z ≠ key) → W p l e (mh_rm 0 0 0) s m ([.ref a, .int (nI key)]).toArray below meth c H locs (0) (0) (mh_MQ below b dC dI (mh_V (some (.int (nI (st_pl (iv_wk x) key (iv_nw x))))) (fun w' => w' = w)) ([.ref a, .int (nI key)]).toArray s 0 0) (F0 m 2 ls []) := by
    intro n
    induction n with
    | zero =>
      intro j H locs ls hX hS hl hn9 hj
      refine lv_iload_n hx hb d_IN_placeOf_2 rfl (lv_at hl 0 rfl) ?_
      refine lv_aload_n hx hb d_IN_placeOf_3 rfl (lv_at hl 1 rfl) ?_
      refine mh_get K0 hX i0 f_IN_61 rfl d_IN_placeOf_4 ?_
      refine mh_icmp_ge (tgt := 28) hx hb (by omega) (by omega) d_IN_placeOf_7 (by decide) (fun _ => ?_) (fun z => absurd z (by omega))
      refine lv_aload_n hx hb d_IN_placeOf_28 rfl (lv_at hl 1 rfl) ?_
      refine mh_get K0 hX i0 f_IN_61 rfl d_IN_placeOf_29 ?_
      exact mh_iret K0 hr rfl hlocks hX hS (⟨by rw [st_pl_uniq (i := iv_nw x) (Nat.le_refl _) (fun z hz => hj z (by omega)) (fun q => absurd q (Nat.lt_irrefl _))], rfl⟩) (Nat.le_of_ble_eq_true rfl) (Nat.le_of_ble_eq_true rfl) d_IN_placeOf_32
    | succ n ih =>
      intro j H locs ls hX hS hl hn9 hj
      refine lv_iload_n hx hb d_IN_placeOf_2 rfl (lv_at hl 0 rfl) ?_
      refine lv_aload_n hx hb d_IN_placeOf_3 rfl (lv_at hl 1 rfl) ?_
      refine mh_get K0 hX i0 f_IN_61 rfl d_IN_placeOf_4 ?_
      refine mh_icmp_ge (tgt := 28) hx hb (by omega) (by omega) d_IN_placeOf_7 (by decide) (fun z => absurd z (by omega)) (fun _ => ?_)
      refine lv_aload_n hx hb d_IN_placeOf_10 rfl (lv_at hl 1 rfl) ?_
      refine mh_get K0 hX i0 f_IN_25 rfl d_IN_placeOf_11 ?_
      refine lv_iload_n hx hb d_IN_placeOf_14 rfl (lv_at hl 0 rfl) ?_
      refine mh_ialdN K0 hX i5 (by omega) (by omega) d_IN_placeOf_15 ?_
      refine mh_ti (y := nI (iv_wk x j)) ((hwk j (by omega)).1) ?_
      have b7 := o7 j (by omega)
      refine lv_iload_n hx hb d_IN_placeOf_16 rfl (lv_at hl 2 rfl) ?_
      refine mh_icmp_ne (tgt := 22) hx hb (by omega) (by omega) d_IN_placeOf_17 (by decide) (fun ct => ?_) (fun cf => ?_)
      · skip
        refine lv_iinc (v := nI (j + 1)) (k := 0) (lv' := [(2, .int (nI (j + 1))), (0, .ref a), (1, .int (nI key))]) hx hb d_IN_placeOf_22 hl rfl (mh_inc j) (by decide) rfl (fun ls hl => ?_)
        refine lv_goto (tgt := 2) hx hb d_IN_placeOf_25 (by decide) ?_
        exact ih (j + 1) _ _ _ hX hS hl (by omega) (fun z hz => if e : z = j then (by rw [e]; exact ct) else hj z (by omega))
      · skip
        refine lv_iload_n hx hb d_IN_placeOf_20 rfl (lv_at hl 0 rfl) ?_
        exact mh_iret K0 hr rfl hlocks hX hS (⟨by rw [st_pl_uniq (i := j) (by omega) hj (fun _ => cf)], rfl⟩) (Nat.le_of_ble_eq_true rfl) (Nat.le_of_ble_eq_true rfl) d_IN_placeOf_21
  exact LP (iv_nw x) 0 _ _ _ hX hS hl (Nat.zero_add _) (fun z hz => absurd hz (Nat.not_lt_zero z))
set_option maxHeartbeats 4000000 in
set_option maxRecDepth 100000 in
theorem c_IN_hasRoomFor {l : Launch} {b : Nat} {dC : Nat → ClassId} {dI : Nat → Nat → Nat} {dA : Nat → ClassId} {zs : Nat → Nat} {w : mh_w} {k i a m0 : Nat} {x : st_I} (h : rI dA w k i a x) (ho : iv_ok m0 x) {key : Nat} (hk : key < 256) : mh_Met l b dC dI dA zs y_IN_hasRoomFor (mh_rm 1 0 0) [.ref a, .int (nI key)] w (mh_V (some (.int (mh_b (decide (st_pl (iv_wk x) key (iv_nw x) < 8))))) (fun w' => w' = w)) := by
  have ho_ := ho
  have hI := h
  obtain ⟨a1, a3, a4, a5, a6, a7, lo, hi, wk, hn, nn, i0, hK, i3, i4, i5, i6, i7, hlo, hwk⟩ := h
  have hK2 := hK
  obtain ⟨kb1, kfb, hk0, hk1, hkf⟩ := hK2
  obtain ⟨o1, o2, o3, o4, o5, o6, o7, o8⟩ := ho
  have hple := st_pl_le (iv_wk x) key (iv_nw x)
  refine mh_ofW (cc := b_IN_hasRoomFor) (n := 2) (ret := (some .boolean)) (hs := []) (by decide) k359 ?_
  intro p e s m below meth c hx hb hr hml hown hts hlocks hnm hT hOK hadm
  have K0 : mh_K0 p s m ([.ref a, .int (nI key)]).toArray c "MeldHost$Intention" b_IN_hasRoomFor dC dI dA := ⟨hx, hb, hown, hts, hOK.1, hOK.2.1⟩
  have hX := hOK.2.2.2.2
  have hb0 := hOK.2.2.2.1
  have hS : va_S (mh_A b) s.heap s.heap [] := va_S.rf
  have hl := lv_entry ([.ref a, .int (nI key)]) (n := 2) (Nat.le_of_ble_eq_true rfl)
  rw [lg_entry_eq]
  generalize (lg_sl ([.ref a, .int (nI key)]) ++ List.replicate (2 - (lg_sl ([.ref a, .int (nI key)])).length) Slot.unset).toArray = ls at hl ⊢
  have hl : lv_has ls 2 [(0, .ref a), (1, .int (nI key))] := hl
  refine lv_aload_n hx hb d_IN_hasRoomFor_0 rfl (lv_at hl 0 rfl) ?_
  refine lv_iload_n hx hb d_IN_hasRoomFor_1 rfl (lv_at hl 1 rfl) ?_
  refine mh_callR (mh_sV (rest := []) (av := [.int (nI key)]) K0 hX i0 rfl e_IN_placeOf l_IN_57 k316 kp3 rfl rfl d_IN_hasRoomFor_2) (c_IN_placeOf hI ho_ hk) K0 hOK hml hl.1 e_IN_placeOf hX hS d_IN_hasRoomFor_2 (Nat.le_of_ble_eq_true rfl) (Nat.le_of_ble_eq_true rfl) (Nat.le_of_ble_eq_true rfl) (Nat.le_of_ble_eq_true rfl) (Nat.le_of_ble_eq_true rfl) (fun H locs hX hS => ?_)
  refine W.eq (g2 := F0 m 5 ls [.int (nI (st_pl (iv_wk x) key (iv_nw x)))]) rfl ?_
  refine lv_bipush (v := nI 8) hx hb d_IN_hasRoomFor_5 (by decide) ?_
  refine mh_icmp_ge (tgt := 14) hx hb (by omega) (by omega) d_IN_hasRoomFor_7 (by decide) (fun ct => ?_) (fun cf => ?_)
  · skip
    refine lv_iconst (v := nI 0) hx hb d_IN_hasRoomFor_14 (by decide) ?_
    exact mh_iret K0 hr (by decide) hlocks hX hS (⟨by rw [decide_eq_false (by omega)]; rfl, rfl⟩) (Nat.le_of_ble_eq_true rfl) (Nat.le_of_ble_eq_true rfl) d_IN_hasRoomFor_15
  · skip
    refine lv_iconst (v := nI 1) hx hb d_IN_hasRoomFor_10 (by decide) ?_
    refine lv_goto (tgt := 15) hx hb d_IN_hasRoomFor_11 (by decide) ?_
    exact mh_iret K0 hr (by decide) hlocks hX hS (⟨by rw [decide_eq_true (by omega)]; rfl, rfl⟩) (Nat.le_of_ble_eq_true rfl) (Nat.le_of_ble_eq_true rfl) d_IN_hasRoomFor_15
set_option maxHeartbeats 4000000 in
set_option maxRecDepth 100000 in
theorem c_IN_hasWritten {l : Launch} {b : Nat} {dC : Nat → ClassId} {dI : Nat → Nat → Nat} {dA : Nat → ClassId} {zs : Nat → Nat} {w : mh_w} {k i a m0 : Nat} {x : st_I} (h : rI dA w k i a x) (ho : iv_ok m0 x) {key : Nat} (hk : key < 256) : mh_Met l b dC dI dA zs y_IN_hasWritten (mh_rm 1 0 0) [.ref a, .int (nI key)] w (mh_V (some (.int (mh_b (decide (st_pl (iv_wk x) key (iv_nw x) < iv_nw x))))) (fun w' => w' = w)) := by
  have ho_ := ho
  have hI := h
  obtain ⟨a1, a3, a4, a5, a6, a7, lo, hi, wk, hn, nn, i0, hK, i3, i4, i5, i6, i7, hlo, hwk⟩ := h
  have hK2 := hK
  obtain ⟨kb1, kfb, hk0, hk1, hkf⟩ := hK2
  obtain ⟨o1, o2, o3, o4, o5, o6, o7, o8⟩ := ho
  have hple := st_pl_le (iv_wk x) key (iv_nw x)
  refine mh_ofW (cc := b_IN_hasWritten) (n := 2) (ret := (some .boolean)) (hs := []) (by decide) k313 ?_
  intro p e s m below meth c hx hb hr hml hown hts hlocks hnm hT hOK hadm
  have K0 : mh_K0 p s m ([.ref a, .int (nI key)]).toArray c "MeldHost$Intention" b_IN_hasWritten dC dI dA := ⟨hx, hb, hown, hts, hOK.1, hOK.2.1⟩
  have hX := hOK.2.2.2.2
  have hb0 := hOK.2.2.2.1
  have hS : va_S (mh_A b) s.heap s.heap [] := va_S.rf
  have hl := lv_entry ([.ref a, .int (nI key)]) (n := 2) (Nat.le_of_ble_eq_true rfl)
  rw [lg_entry_eq]
  generalize (lg_sl ([.ref a, .int (nI key)]) ++ List.replicate (2 - (lg_sl ([.ref a, .int (nI key)])).length) Slot.unset).toArray = ls at hl ⊢
  have hl : lv_has ls 2 [(0, .ref a), (1, .int (nI key))] := hl
  refine lv_aload_n hx hb d_IN_hasWritten_0 rfl (lv_at hl 0 rfl) ?_
  refine lv_iload_n hx hb d_IN_hasWritten_1 rfl (lv_at hl 1 rfl) ?_
  refine mh_callR (mh_sV (rest := []) (av := [.int (nI key)]) K0 hX i0 rfl e_IN_placeOf l_IN_57 k316 kp3 rfl rfl d_IN_hasWritten_2) (c_IN_placeOf hI ho_ hk) K0 hOK hml hl.1 e_IN_placeOf hX hS d_IN_hasWritten_2 (Nat.le_of_ble_eq_true rfl) (Nat.le_of_ble_eq_true rfl) (Nat.le_of_ble_eq_true rfl) (Nat.le_of_ble_eq_true rfl) (Nat.le_of_ble_eq_true rfl) (fun H locs hX hS => ?_)
  refine W.eq (g2 := F0 m 5 ls [.int (nI (st_pl (iv_wk x) key (iv_nw x)))]) rfl ?_
  refine lv_aload_n hx hb d_IN_hasWritten_5 rfl (lv_at hl 0 rfl) ?_
  refine mh_get K0 hX i0 f_IN_61 rfl d_IN_hasWritten_6 ?_
  refine mh_icmp_ge (tgt := 16) hx hb (by omega) (by omega) d_IN_hasWritten_9 (by decide) (fun ct => ?_) (fun cf => ?_)
  · skip
    refine lv_iconst (v := nI 0) hx hb d_IN_hasWritten_16 (by decide) ?_
    exact mh_iret K0 hr (by decide) hlocks hX hS (⟨by rw [decide_eq_false (by omega)]; rfl, rfl⟩) (Nat.le_of_ble_eq_true rfl) (Nat.le_of_ble_eq_true rfl) d_IN_hasWritten_17
  · skip
    refine lv_iconst (v := nI 1) hx hb d_IN_hasWritten_12 (by decide) ?_
    refine lv_goto (tgt := 17) hx hb d_IN_hasWritten_13 (by decide) ?_
    exact mh_iret K0 hr (by decide) hlocks hX hS (⟨by rw [decide_eq_true (by omega)]; rfl, rfl⟩) (Nat.le_of_ble_eq_true rfl) (Nat.le_of_ble_eq_true rfl) d_IN_hasWritten_17
set_option maxHeartbeats 4000000 in
set_option maxRecDepth 100000 in
theorem c_IN_hasRead {l : Launch} {b : Nat} {dC : Nat → ClassId} {dI : Nat → Nat → Nat} {dA : Nat → ClassId} {zs : Nat → Nat} {w : mh_w} {k i a m0 : Nat} {x : st_I} (h : rI dA w k i a x) (ho : iv_ok m0 x) {key : Nat} (hk : key < 256) : mh_Met l b dC dI dA zs y_IN_hasRead (mh_rm 1 0 0) [.ref a, .int (nI key)] w (mh_V (some (.int (mh_b (st_rd x key)))) (fun w' => w' = w)) := by
  have ho_ := ho
  have hI := h
  obtain ⟨a1, a3, a4, a5, a6, a7, lo, hi, wk, hn, nn, i0, hK, i3, i4, i5, i6, i7, hlo, hwk⟩ := h
  have hK2 := hK
  obtain ⟨kb1, kfb, hk0, hk1, hkf⟩ := hK2
  obtain ⟨o1, o2, o3, o4, o5, o6, o7, o8⟩ := ho
  refine mh_ofW (cc := b_IN_hasRead) (n := 3) (ret := (some .boolean)) (hs := []) (by decide) k477 ?_
  intro p e s m below meth c hx hb hr hml hown hts hlocks hnm hT hOK hadm
  have K0 : mh_K0 p s m ([.ref a, .int (nI key)]).toArray c "MeldHost$Intention" b_IN_hasRead dC dI dA := ⟨hx, hb, hown, hts, hOK.1, hOK.2.1⟩
  have hX := hOK.2.2.2.2
  have hb0 := hOK.2.2.2.1
  have hS : va_S (mh_A b) s.heap s.heap [] := va_S.rf
  have hl := lv_entry ([.ref a, .int (nI key)]) (n := 3) (Nat.le_of_ble_eq_true rfl)
  rw [lg_entry_eq]
  generalize (lg_sl ([.ref a, .int (nI key)]) ++ List.replicate (3 - (lg_sl ([.ref a, .int (nI key)])).length) Slot.unset).toArray = ls at hl ⊢
  have hl : lv_has ls 3 [(0, .ref a), (1, .int (nI key))] := hl
  refine lv_iconst (v := nI 0) hx hb d_IN_hasRead_0 (by decide) ?_
  refine lv_istore_n (lv' := [(2, .int (nI 0)), (0, .ref a), (1, .int (nI key))]) hx hb d_IN_hasRead_1 rfl hl (by decide) rfl (fun ls hl => ?_)
  have hfun : ∀ z, z < iv_np x → ((decide (iv_lo x z ≤ key) && decide (key ≤ iv_hi x z)) = true ↔ (iv_lo x z ≤ key ∧ key ≤ iv_hi x z)) := fun z _ => by simp
  have LP : ∀ (n : Nat) (j : Nat) (H : Heap) (locs : List Loc) (ls : Array Slot), mh_P (dC, dI) b w H → va_S (mh_A b) s.heap H locs → lv_has ls 3 [(2, .int (nI j)), (0, .ref a), (1, .int (nI key))] → (j + n = iv_np x) → (∀ z, z < j → (decide (iv_lo x z ≤ key) && decide (key ≤ iv_hi x z)) = false) → W p l e (mh_rm 1 0 0) s m ([.ref a, .int (nI key)]).toArray below meth c H locs (0) (0) (mh_MQ below b dC dI (mh_V (some (.int (mh_b (st_rd x key)))) (fun w' => w' = w)) ([.ref a, .int (nI key)]).toArray s 0 0) (F0 m 2 ls []) := by
    intro n
    induction n with
    | zero =>
      intro j H locs ls hX hS hl hn9 hj
      refine lv_iload_n hx hb d_IN_hasRead_2 rfl (lv_at hl 0 rfl) ?_
      refine lv_aload_n hx hb d_IN_hasRead_3 rfl (lv_at hl 1 rfl) ?_
      refine mh_get K0 hX i0 f_IN_54 rfl d_IN_hasRead_4 ?_
      refine mh_icmp_ge (tgt := 38) hx hb (by omega) (by omega) d_IN_hasRead_7 (by decide) (fun _ => ?_) (fun z => absurd z (by omega))
      refine lv_aload_n hx hb d_IN_hasRead_38 rfl (lv_at hl 1 rfl) ?_
      refine mh_get K0 hX i0 f_IN_12 rfl d_IN_hasRead_39 ?_
      refine lv_iload_n hx hb d_IN_hasRead_42 rfl (lv_at hl 2 rfl) ?_
      refine mh_callR (mh_sV (rest := []) (av := [.int (nI key)]) K0 hX hk0 rfl e_KS_has l_IN_70 k326 k327 rfl rfl d_IN_hasRead_43) (c_KS_has hK hk) K0 hOK hml hl.1 e_KS_has hX hS d_IN_hasRead_43 (Nat.le_of_ble_eq_true rfl) (Nat.le_of_ble_eq_true rfl) (Nat.le_of_ble_eq_true rfl) (Nat.le_of_ble_eq_true rfl) (Nat.le_of_ble_eq_true rfl) (fun H locs hX hS => ?_)
      refine W.eq (g2 := F0 m 46 ls [.int (mh_b (iv_rd x key))]) rfl ?_
      exact mh_iret K0 hr (mh_b_nar _) hlocks hX hS (⟨by unfold st_rd; rw [st_any_false (fun z hz => hj z (by omega))]; rfl, rfl⟩) (Nat.le_of_ble_eq_true rfl) (Nat.le_of_ble_eq_true rfl) d_IN_hasRead_46
    | succ n ih =>
      intro j H locs ls hX hS hl hn9 hj
      have b6 := o6 j (by omega)
      refine lv_iload_n hx hb d_IN_hasRead_2 rfl (lv_at hl 0 rfl) ?_
      refine lv_aload_n hx hb d_IN_hasRead_3 rfl (lv_at hl 1 rfl) ?_
      refine mh_get K0 hX i0 f_IN_54 rfl d_IN_hasRead_4 ?_
      refine mh_icmp_ge (tgt := 38) hx hb (by omega) (by omega) d_IN_hasRead_7 (by decide) (fun z => absurd z (by omega)) (fun _ => ?_)
      refine lv_aload_n hx hb d_IN_hasRead_10 rfl (lv_at hl 1 rfl) ?_
      refine mh_get K0 hX i0 f_IN_18 rfl d_IN_hasRead_11 ?_
      refine lv_iload_n hx hb d_IN_hasRead_14 rfl (lv_at hl 0 rfl) ?_
      refine mh_ialdN K0 hX i3 (by omega) (by omega) d_IN_hasRead_15 ?_
      refine mh_ti (y := nI (iv_lo x j)) ((hlo j (by omega)).1) ?_
      refine lv_iload_n hx hb d_IN_hasRead_16 rfl (lv_at hl 2 rfl) ?_
      refine mh_icmp_gt (tgt := 32) hx hb (by omega) (by omega) d_IN_hasRead_17 (by decide) (fun ct => ?_) (fun cf => ?_)
      · skip
        refine lv_iinc (v := nI (j + 1)) (k := 0) (lv' := [(2, .int (nI (j + 1))), (0, .ref a), (1, .int (nI key))]) hx hb d_IN_hasRead_32 hl rfl (mh_inc j) (by decide) rfl (fun ls hl => ?_)
        refine lv_goto (tgt := 2) hx hb d_IN_hasRead_35 (by decide) ?_
        exact ih (j + 1) _ _ _ hX hS hl (by omega) (fun z hz => if e : z = j then (by rw [e, decide_eq_false (by omega)]; rfl) else hj z (by omega))
      · skip
        refine lv_iload_n hx hb d_IN_hasRead_20 rfl (lv_at hl 2 rfl) ?_
        refine lv_aload_n hx hb d_IN_hasRead_21 rfl (lv_at hl 1 rfl) ?_
        refine mh_get K0 hX i0 f_IN_22 rfl d_IN_hasRead_22 ?_
        refine lv_iload_n hx hb d_IN_hasRead_25 rfl (lv_at hl 0 rfl) ?_
        refine mh_ialdN K0 hX i4 (by omega) (by omega) d_IN_hasRead_26 ?_
        refine mh_ti (y := nI (iv_hi x j)) ((hlo j (by omega)).2) ?_
        refine mh_icmp_gt (tgt := 32) hx hb (by omega) (by omega) d_IN_hasRead_27 (by decide) (fun ct2 => ?_) (fun cf2 => ?_)
        · skip
          refine lv_iinc (v := nI (j + 1)) (k := 0) (lv' := [(2, .int (nI (j + 1))), (0, .ref a), (1, .int (nI key))]) hx hb d_IN_hasRead_32 hl rfl (mh_inc j) (by decide) rfl (fun ls hl => ?_)
          refine lv_goto (tgt := 2) hx hb d_IN_hasRead_35 (by decide) ?_
          exact ih (j + 1) _ _ _ hX hS hl (by omega) (fun z hz => if e : z = j then (by rw [e, Bool.and_comm, decide_eq_false (by omega)]; rfl) else hj z (by omega))
        · skip
          refine lv_iconst (v := nI 1) hx hb d_IN_hasRead_30 (by decide) ?_
          exact mh_iret K0 hr (by decide) hlocks hX hS (⟨by unfold st_rd; rw [st_any_true (i := j) (by omega) ((hfun j (by omega)).mpr ⟨cf, cf2⟩)]; rfl, rfl⟩) (Nat.le_of_ble_eq_true rfl) (Nat.le_of_ble_eq_true rfl) d_IN_hasRead_31
  exact LP (iv_np x) 0 _ _ _ hX hS hl (Nat.zero_add _) (fun z hz => absurd hz (Nat.not_lt_zero z))
set_option maxHeartbeats 4000000 in
set_option maxRecDepth 100000 in
theorem c_IN_isHitBy {l : Launch} {b : Nat} {dC : Nat → ClassId} {dI : Nat → Nat → Nat} {dA : Nat → ClassId} {zs : Nat → Nat} {w : mh_w} {k i a m0 : Nat} {x : st_I} (h : rI dA w k i a x) (ho : iv_ok m0 x) {k2 i2 c0 m2 : Nat} {y : st_I} (h2 : rI dA w k2 i2 c0 y) (ho2 : iv_ok m2 y) : mh_Met l b dC dI dA zs y_IN_isHitBy (mh_rm 2 0 0) [.ref a, .ref c0] w (mh_V (some (.int (mh_b (st_ht x y)))) (fun w' => w' = w)) := by
  have ho_ := ho
  have hI := h
  obtain ⟨a1, a3, a4, a5, a6, a7, lo, hi, wk, hn, nn, i0, hK, i3, i4, i5, i6, i7, hlo, hwk⟩ := h
  have hK2 := hK
  obtain ⟨kb1, kfb, hk0, hk1, hkf⟩ := hK2
  obtain ⟨o1, o2, o3, o4, o5, o6, o7, o8⟩ := ho
  obtain ⟨c1, c3, c4, c5, c6, c7, lo2, hi2, wk2, hn2, nn2, j0, hK3, j3, j4, j5, j6, j7, hlo2, hwk2⟩ := h2
  obtain ⟨u1, u2, u3, u4, u5, u6, u7, u8⟩ := ho2
  refine mh_ofW (cc := b_IN_isHitBy) (n := 4) (ret := (some .boolean)) (hs := []) (by decide) k473 ?_
  intro p e s m below meth c hx hb hr hml hown hts hlocks hnm hT hOK hadm
  have K0 : mh_K0 p s m ([.ref a, .ref c0]).toArray c "MeldHost$Intention" b_IN_isHitBy dC dI dA := ⟨hx, hb, hown, hts, hOK.1, hOK.2.1⟩
  have hX := hOK.2.2.2.2
  have hb0 := hOK.2.2.2.1
  have hS : va_S (mh_A b) s.heap s.heap [] := va_S.rf
  have hl := lv_entry ([.ref a, .ref c0]) (n := 4) (Nat.le_of_ble_eq_true rfl)
  rw [lg_entry_eq]
  generalize (lg_sl ([.ref a, .ref c0]) ++ List.replicate (4 - (lg_sl ([.ref a, .ref c0])).length) Slot.unset).toArray = ls at hl ⊢
  have hl : lv_has ls 4 [(0, .ref a), (1, .ref c0)] := hl
  refine lv_iconst (v := nI 0) hx hb d_IN_isHitBy_0 (by decide) ?_
  refine lv_istore_n (lv' := [(2, .int (nI 0)), (0, .ref a), (1, .ref c0)]) hx hb d_IN_isHitBy_1 rfl hl (by decide) rfl (fun ls hl => ?_)
  have LP : ∀ (n : Nat) (j : Nat) (H : Heap) (locs : List Loc) (ls : Array Slot), mh_P (dC, dI) b w H → va_S (mh_A b) s.heap H locs → lv_has ls 4 [(2, .int (nI j)), (0, .ref a), (1, .ref c0)] → (j + n = iv_nw y) → (∀ z, z < j → (if iv_lv x = 0 then st_rd x (iv_wk y z) else decide (st_pl (iv_wk x) (iv_wk y z) (iv_nw x) < iv_nw x)) = false) → W p l e (mh_rm 2 0 0) s m ([.ref a, .ref c0]).toArray below meth c H locs (0) (0) (mh_MQ below b dC dI (mh_V (some (.int (mh_b (st_ht x y)))) (fun w' => w' = w)) ([.ref a, .ref c0]).toArray s 0 0) (F0 m 2 ls []) := by
    intro n
    induction n with
    | zero =>
      intro j H locs ls hX hS hl hn9 hj
      refine lv_iload_n hx hb d_IN_isHitBy_2 rfl (lv_at hl 0 rfl) ?_
      refine lv_aload_n hx hb d_IN_isHitBy_3 rfl (lv_at hl 2 rfl) ?_
      refine mh_get K0 hX j0 f_IN_61 rfl d_IN_isHitBy_4 ?_
      refine mh_icmp_ge (tgt := 51) hx hb (by omega) (by omega) d_IN_isHitBy_7 (by decide) (fun _ => ?_) (fun z => absurd z (by omega))
      refine lv_iconst (v := nI 0) hx hb d_IN_isHitBy_51 (by decide) ?_
      exact mh_iret K0 hr (by decide) hlocks hX hS (⟨by unfold st_ht; rw [st_any_false (fun z hz => hj z (by omega))]; rfl, rfl⟩) (Nat.le_of_ble_eq_true rfl) (Nat.le_of_ble_eq_true rfl) d_IN_isHitBy_52
    | succ n ih =>
      intro j H locs ls hX hS hl hn9 hj
      have b7 := u7 j (by omega)
      refine lv_iload_n hx hb d_IN_isHitBy_2 rfl (lv_at hl 0 rfl) ?_
      refine lv_aload_n hx hb d_IN_isHitBy_3 rfl (lv_at hl 2 rfl) ?_
      refine mh_get K0 hX j0 f_IN_61 rfl d_IN_isHitBy_4 ?_
      refine mh_icmp_ge (tgt := 51) hx hb (by omega) (by omega) d_IN_isHitBy_7 (by decide) (fun z => absurd z (by omega)) (fun _ => ?_)
      refine lv_aload_n hx hb d_IN_isHitBy_10 rfl (lv_at hl 2 rfl) ?_
      refine mh_get K0 hX j0 f_IN_25 rfl d_IN_isHitBy_11 ?_
      refine lv_iload_n hx hb d_IN_isHitBy_14 rfl (lv_at hl 0 rfl) ?_
      refine mh_ialdN K0 hX j5 (by omega) (by omega) d_IN_isHitBy_15 ?_
      refine mh_ti (y := nI (iv_wk y j)) ((hwk2 j (by omega)).1) ?_
      refine lv_istore_n (lv' := [(3, .int (nI (iv_wk y j))), (2, .int (nI j)), (0, .ref a), (1, .ref c0)]) hx hb d_IN_isHitBy_16 rfl hl (by decide) rfl (fun ls hl => ?_)
      refine lv_aload_n hx hb d_IN_isHitBy_17 rfl (lv_at hl 2 rfl) ?_
      refine mh_get K0 hX i0 f_IN_43 rfl d_IN_isHitBy_18 ?_
      refine mh_if_ne (tgt := 35) hx hb (by omega) d_IN_isHitBy_21 (by decide) (fun ct => ?_) (fun cf => ?_)
      · skip
        refine lv_aload_n hx hb d_IN_isHitBy_35 rfl (lv_at hl 2 rfl) ?_
        refine lv_iload_n hx hb d_IN_isHitBy_36 rfl (lv_at hl 0 rfl) ?_
        refine mh_callR (mh_sV (rest := []) (av := [.int (nI (iv_wk y j))]) K0 hX i0 rfl e_IN_hasWritten l_IN_46 k312 kp2 rfl rfl d_IN_isHitBy_37) (c_IN_hasWritten hI ho_ b7) K0 hOK hml hl.1 e_IN_hasWritten hX hS d_IN_isHitBy_37 (Nat.le_of_ble_eq_true rfl) (Nat.le_of_ble_eq_true rfl) (Nat.le_of_ble_eq_true rfl) (Nat.le_of_ble_eq_true rfl) (Nat.le_of_ble_eq_true rfl) (fun H locs hX hS => ?_)
        refine W.eq (g2 := F0 m 40 ls [.int (mh_b (decide (st_pl (iv_wk x) (iv_wk y j) (iv_nw x) < iv_nw x)))]) rfl ?_
        refine mh_ifeqB (tgt := 45) hx hb d_IN_isHitBy_40 (by decide) (fun c2 => ?_) (fun c2 => ?_)
        · skip
          refine lv_iinc (v := nI (j + 1)) (k := 1) (lv' := [(2, .int (nI (j + 1))), (3, .int (nI (iv_wk y j))), (0, .ref a), (1, .ref c0)]) hx hb d_IN_isHitBy_45 hl rfl (mh_inc j) (by decide) rfl (fun ls hl => ?_)
          refine lv_goto (tgt := 2) hx hb d_IN_isHitBy_48 (by decide) ?_
          exact ih (j + 1) _ _ _ hX hS (lv_sub hl [0, 2, 3] rfl) (by omega) (fun z hz => if e : z = j then (by rw [e, if_neg ct]; exact c2) else hj z (by omega))
        · skip
          refine lv_iconst (v := nI 1) hx hb d_IN_isHitBy_43 (by decide) ?_
          exact mh_iret K0 hr (by decide) hlocks hX hS (⟨by unfold st_ht; rw [st_any_true (i := j) (by omega) (by show (if _ then _ else _) = true; rw [if_neg ct]; exact c2)]; rfl, rfl⟩) (Nat.le_of_ble_eq_true rfl) (Nat.le_of_ble_eq_true rfl) d_IN_isHitBy_44
      · skip
        refine lv_aload_n hx hb d_IN_isHitBy_24 rfl (lv_at hl 2 rfl) ?_
        refine lv_iload_n hx hb d_IN_isHitBy_25 rfl (lv_at hl 0 rfl) ?_
        refine mh_callR (mh_sV (rest := []) (av := [.int (nI (iv_wk y j))]) K0 hX i0 rfl e_IN_hasRead l_IN_73 k476 kp9 rfl rfl d_IN_isHitBy_26) (c_IN_hasRead hI ho_ b7) K0 hOK hml hl.1 e_IN_hasRead hX hS d_IN_isHitBy_26 (Nat.le_of_ble_eq_true rfl) (Nat.le_of_ble_eq_true rfl) (Nat.le_of_ble_eq_true rfl) (Nat.le_of_ble_eq_true rfl) (Nat.le_of_ble_eq_true rfl) (fun H locs hX hS => ?_)
        refine W.eq (g2 := F0 m 29 ls [.int (mh_b (st_rd x (iv_wk y j)))]) rfl ?_
        refine mh_ifeqB (tgt := 45) hx hb d_IN_isHitBy_29 (by decide) (fun c2 => ?_) (fun c2 => ?_)
        · skip
          refine lv_iinc (v := nI (j + 1)) (k := 1) (lv' := [(2, .int (nI (j + 1))), (3, .int (nI (iv_wk y j))), (0, .ref a), (1, .ref c0)]) hx hb d_IN_isHitBy_45 hl rfl (mh_inc j) (by decide) rfl (fun ls hl => ?_)
          refine lv_goto (tgt := 2) hx hb d_IN_isHitBy_48 (by decide) ?_
          exact ih (j + 1) _ _ _ hX hS (lv_sub hl [0, 2, 3] rfl) (by omega) (fun z hz => if e : z = j then (by rw [e, if_pos cf]; exact c2) else hj z (by omega))
        · skip
          refine lv_goto (tgt := 43) hx hb d_IN_isHitBy_32 (by decide) ?_
          refine lv_iconst (v := nI 1) hx hb d_IN_isHitBy_43 (by decide) ?_
          exact mh_iret K0 hr (by decide) hlocks hX hS (⟨by unfold st_ht; rw [st_any_true (i := j) (by omega) (by show (if _ then _ else _) = true; rw [if_pos cf]; exact c2)]; rfl, rfl⟩) (Nat.le_of_ble_eq_true rfl) (Nat.le_of_ble_eq_true rfl) d_IN_isHitBy_44
  exact LP (iv_nw y) 0 _ _ _ hX hS hl (Nat.zero_add _) (fun z hz => absurd hz (Nat.not_lt_zero z))
set_option maxHeartbeats 4000000 in
set_option maxRecDepth 100000 in
theorem c_IN_readKey {l : Launch} {b : Nat} {dC : Nat → ClassId} {dI : Nat → Nat → Nat} {dA : Nat → ClassId} {zs : Nat → Nat} {w : mh_w} {k i a m0 : Nat} {x : st_I} (h : rI dA w k i a x) (ho : iv_ok m0 x) {key : Nat} (hk : key < 256) : mh_Met l b dC dI dA zs y_IN_readKey (mh_rm 2 0 0) [.ref a, .int (nI key)] w (mh_V none (fun w' => rI dA w' k i a (st_get x key) ∧ mh_F w w' k 8 i)) := by
  have ho_ := ho
  have hI := h
  obtain ⟨a1, a3, a4, a5, a6, a7, lo, hi, wk, hn, nn, i0, hK, i3, i4, i5, i6, i7, hlo, hwk⟩ := h
  have hK2 := hK
  obtain ⟨kb1, kfb, hk0, hk1, hkf⟩ := hK2
  obtain ⟨o1, o2, o3, o4, o5, o6, o7, o8⟩ := ho
  refine mh_ofW (cc := b_IN_readKey) (n := 2) (ret := none) (hs := []) (by decide) k309 ?_
  intro p e s m below meth c hx hb hr hml hown hts hlocks hnm hT hOK hadm
  have K0 : mh_K0 p s m ([.ref a, .int (nI key)]).toArray c "MeldHost$Intention" b_IN_readKey dC dI dA := ⟨hx, hb, hown, hts, hOK.1, hOK.2.1⟩
  have hX := hOK.2.2.2.2
  have hb0 := hOK.2.2.2.1
  have hS : va_S (mh_A b) s.heap s.heap [] := va_S.rf
  have hl := lv_entry ([.ref a, .int (nI key)]) (n := 2) (Nat.le_of_ble_eq_true rfl)
  rw [lg_entry_eq]
  generalize (lg_sl ([.ref a, .int (nI key)]) ++ List.replicate (2 - (lg_sl ([.ref a, .int (nI key)])).length) Slot.unset).toArray = ls at hl ⊢
  have hl : lv_has ls 2 [(0, .ref a), (1, .int (nI key))] := hl
  refine lv_aload_n hx hb d_IN_readKey_0 rfl (lv_at hl 0 rfl) ?_
  refine lv_iload_n hx hb d_IN_readKey_1 rfl (lv_at hl 1 rfl) ?_
  refine mh_callR (mh_sV (rest := []) (av := [.int (nI key)]) K0 hX i0 rfl e_IN_hasWritten l_IN_46 k312 kp2 rfl rfl d_IN_readKey_2) (c_IN_hasWritten hI ho_ hk) K0 hOK hml hl.1 e_IN_hasWritten hX hS d_IN_readKey_2 (Nat.le_of_ble_eq_true rfl) (Nat.le_of_ble_eq_true rfl) (Nat.le_of_ble_eq_true rfl) (Nat.le_of_ble_eq_true rfl) (Nat.le_of_ble_eq_true rfl) (fun H locs hX hS => ?_)
  refine W.eq (g2 := F0 m 5 ls [.int (mh_b (decide (st_pl (iv_wk x) key (iv_nw x) < iv_nw x)))]) rfl ?_
  refine mh_ifneB (tgt := 16) hx hb d_IN_readKey_5 (by decide) (fun ct => ?_) (fun cf => ?_)
  · skip
    exact mh_vret K0 hr hlocks hX hS (⟨rfl, by rw [show st_get x key = x from if_pos (of_decide_eq_true ct)]; exact hI, mh_F.rf⟩) (Nat.le_of_ble_eq_true rfl) (Nat.le_of_ble_eq_true rfl) d_IN_readKey_16
  · skip
    refine lv_aload_n hx hb d_IN_readKey_8 rfl (lv_at hl 0 rfl) ?_
    refine mh_get K0 hX i0 f_IN_12 rfl d_IN_readKey_9 ?_
    refine lv_iload_n hx hb d_IN_readKey_12 rfl (lv_at hl 1 rfl) ?_
    refine mh_callV (mh_sV (rest := []) (av := [.int (nI key)]) K0 hX hk0 rfl e_KS_add l_IN_50 k319 k320 rfl rfl d_IN_readKey_13) (c_KS_add hK hk) K0 hOK hml hl.1 e_KS_add hX hS d_IN_readKey_13 (Nat.le_of_ble_eq_true rfl) (Nat.le_of_ble_eq_true rfl) (Nat.le_of_ble_eq_true rfl) (Nat.le_of_ble_eq_true rfl) (Nat.le_of_ble_eq_true rfl) (fun w1 H locs ⟨hK1, hF⟩ hX hS => ?_)
    refine W.eq (g2 := F0 m 16 ls []) rfl ?_
    exact mh_vret K0 hr hlocks hX hS (⟨rfl, by rw [show st_get x key = (x.1, (fun j => decide (j = key) || iv_rd x j), x.2.2) from if_neg (of_decide_eq_false cf)]; exact ⟨a1, a3, a4, a5, a6, a7, lo, hi, wk, hn, nn, ((hF k i (by omega)).trans i0), hK1, ((hF (k + 3) i (by omega)).trans i3), ((hF (k + 4) i (by omega)).trans i4), ((hF (k + 5) i (by omega)).trans i5), ((hF (k + 6) i (by omega)).trans i6), ((hF (k + 7) i (by omega)).trans i7), hlo, hwk⟩, fun k2 i2 h2 => hF k2 i2 (by omega)⟩) (Nat.le_of_ble_eq_true rfl) (Nat.le_of_ble_eq_true rfl) d_IN_readKey_16
set_option maxHeartbeats 4000000 in
set_option maxRecDepth 100000 in
theorem c_IN_readPart {l : Launch} {b : Nat} {dC : Nat → ClassId} {dI : Nat → Nat → Nat} {dA : Nat → ClassId} {zs : Nat → Nat} {w : mh_w} {k i a m0 : Nat} {x : st_I} (h : rI dA w k i a x) (ho : iv_ok m0 x) {low high : Nat} (h8 : iv_np x < 8) : mh_Met l b dC dI dA zs y_IN_readPart (mh_rm 0 0 0) [.ref a, .int (nI low), .int (nI high)] w (mh_V none (fun w' => rI dA w' k i a (st_prt x low high) ∧ mh_F w w' k 8 i)) := by
  have ho_ := ho
  have hI := h
  obtain ⟨a1, a3, a4, a5, a6, a7, lo, hi, wk, hn, nn, i0, hK, i3, i4, i5, i6, i7, hlo, hwk⟩ := h
  have hK2 := hK
  obtain ⟨kb1, kfb, hk0, hk1, hkf⟩ := hK2
  obtain ⟨o1, o2, o3, o4, o5, o6, o7, o8⟩ := ho
  refine mh_ofW (cc := b_IN_readPart) (n := 3) (ret := none) (hs := []) (by decide) k418 ?_
  intro p e s m below meth c hx hb hr hml hown hts hlocks hnm hT hOK hadm
  have K0 : mh_K0 p s m ([.ref a, .int (nI low), .int (nI high)]).toArray c "MeldHost$Intention" b_IN_readPart dC dI dA := ⟨hx, hb, hown, hts, hOK.1, hOK.2.1⟩
  have hX := hOK.2.2.2.2
  have hb0 := hOK.2.2.2.1
  have hS : va_S (mh_A b) s.heap s.heap [] := va_S.rf
  have hl := lv_entry ([.ref a, .int (nI low), .int (nI high)]) (n := 3) (Nat.le_of_ble_eq_true rfl)
  rw [lg_entry_eq]
  generalize (lg_sl ([.ref a, .int (nI low), .int (nI high)]) ++ List.replicate (3 - (lg_sl ([.ref a, .int (nI low), .int (nI high)])).length) Slot.unset).toArray = ls at hl ⊢
  have hl : lv_has ls 3 [(0, .ref a), (1, .int (nI low)), (2, .int (nI high))] := hl
  refine lv_aload_n hx hb d_IN_readPart_0 rfl (lv_at hl 0 rfl) ?_
  refine mh_get K0 hX i0 f_IN_54 rfl d_IN_readPart_1 ?_
  refine lv_bipush (v := nI 8) hx hb d_IN_readPart_4 (by decide) ?_
  refine mh_icmp_ge (tgt := 39) hx hb (by omega) (by omega) d_IN_readPart_6 (by decide) (fun z => absurd z (by omega)) (fun _ => ?_)
  refine lv_aload_n hx hb d_IN_readPart_9 rfl (lv_at hl 0 rfl) ?_
  refine mh_get K0 hX i0 f_IN_18 rfl d_IN_readPart_10 ?_
  refine lv_aload_n hx hb d_IN_readPart_13 rfl (lv_at hl 0 rfl) ?_
  refine mh_get K0 hX i0 f_IN_54 rfl d_IN_readPart_14 ?_
  refine lv_iload_n hx hb d_IN_readPart_17 rfl (lv_at hl 1 rfl) ?_
  refine mh_iastN K0 hX hS i3 (by omega) (by omega) d_IN_readPart_18 (fun H locs hX hS => ?_)
  have fs29 := mh_self hX
  refine lv_aload_n hx hb d_IN_readPart_19 rfl (lv_at hl 0 rfl) ?_
  refine mh_get K0 hX (mh_kp i0 (by omega)) f_IN_22 rfl d_IN_readPart_20 ?_
  refine lv_aload_n hx hb d_IN_readPart_23 rfl (lv_at hl 0 rfl) ?_
  refine mh_get K0 hX (mh_kp i0 (by omega)) f_IN_54 rfl d_IN_readPart_24 ?_
  refine lv_iload_n hx hb d_IN_readPart_27 rfl (lv_at hl 2 rfl) ?_
  refine mh_iastN K0 hX hS (mh_kp i4 (by omega)) (by omega) (by omega) d_IN_readPart_28 (fun H locs hX hS => ?_)
  have fs30 := mh_self hX
  refine lv_aload_n hx hb d_IN_readPart_29 rfl (lv_at hl 0 rfl) ?_
  refine lv_dup hx hb d_IN_readPart_30 rfl ?_
  refine mh_get K0 hX (mh_kp (mh_kp i0 (by omega)) (by omega)) f_IN_54 rfl d_IN_readPart_31 ?_
  refine lv_iconst (v := nI 1) hx hb d_IN_readPart_34 (by decide) ?_
  refine mh_addN hx hb d_IN_readPart_35 ?_
  refine mh_put K0 hX hS (mh_kp (mh_kp i0 (by omega)) (by omega)) f_IN_54 p_2_9 rfl rfl (Nat.le_of_ble_eq_true rfl) d_IN_readPart_36 (fun H locs hX hS => ?_)
  have hX : mh_P (dC, dI) b (mh_set _ k i (some (a, .inr (2, [.int (nI (iv_sv x)), .int (nI (iv_sn x)), .int (nI (iv_lv x)), .ref a1, .ref a3, .ref a4, .ref a5, .ref a6, .ref a7, .int (nI ((iv_np x) + 1)), .int (nI (iv_nw x)), .int (mh_b (iv_gd x))])))) H := hX
  have fs31 := mh_self hX
  refine mh_vret K0 hr hlocks hX hS (⟨rfl, ⟨a1, a3, a4, a5, a6, a7, _, _, wk, hn, nn, fs31, hK.to (fun z hz => by repeat rw [mh_set_ne _ _ _ _ (by omega)]) (fun j _ => rfl), (mh_kp (mh_kp fs29 (by omega)) (by omega)), (mh_kp fs30 (by omega)), (mh_kp (mh_kp (mh_kp i5 (by omega)) (by omega)) (by omega)), (mh_kp (mh_kp (mh_kp i6 (by omega)) (by omega)) (by omega)), (mh_kp (mh_kp (mh_kp i7 (by omega)) (by omega)) (by omega)), fun j hj => ?_, hwk⟩, (((mh_F.rf.set (by omega) (by omega)).set (by omega) (by omega)).set (by omega) (by omega))⟩) (Nat.le_of_ble_eq_true rfl) (Nat.le_of_ble_eq_true rfl) d_IN_readPart_39
  have hj : j < iv_np x + 1 := hj
  show upd lo (iv_np x) (nI low) j = nI (va_up (iv_lo x) (iv_np x) low j) ∧ upd hi (iv_np x) (nI high) j = nI (va_up (iv_hi x) (iv_np x) high j)
  by_cases e9 : j = iv_np x
  · rw [e9, pk_us, pk_us, va_up_self, va_up_self]; exact ⟨rfl, rfl⟩
  · rw [pk_un e9, pk_un e9, va_up_ne _ _ e9, va_up_ne _ _ e9]; exact hlo j (by omega)
set_option maxHeartbeats 4000000 in
set_option maxRecDepth 100000 in
theorem c_IN_write {l : Launch} {b : Nat} {dC : Nat → ClassId} {dI : Nat → Nat → Nat} {dA : Nat → ClassId} {zs : Nat → Nat} {w : mh_w} {k i a m0 : Nat} {x : st_I} (h : rI dA w k i a x) (ho : iv_ok m0 x) {key : Nat} (hk : key < 256) {v : Option Int64} {u : Int64} (hu : ∀ z, v = some z → u = z) (h8 : st_pl (iv_wk x) key (iv_nw x) < 8) : mh_Met l b dC dI dA zs y_IN_write (mh_rm 1 0 0) [.ref a, .int (nI key), .int (mh_b v.isSome), .long u] w (mh_V none (fun w' => rI dA w' k i a (st_wr x key v) ∧ mh_F w w' k 8 i)) := by
  have ho_ := ho
  have hI := h
  obtain ⟨a1, a3, a4, a5, a6, a7, lo, hi, wk, hn, nn, i0, hK, i3, i4, i5, i6, i7, hlo, hwk⟩ := h
  have hK2 := hK
  obtain ⟨kb1, kfb, hk0, hk1, hkf⟩ := hK2
  obtain ⟨o1, o2, o3, o4, o5, o6, o7, o8⟩ := ho
  have hple := st_pl_le (iv_wk x) key (iv_nw x)
  refine mh_ofW (cc := b_IN_write) (n := 6) (ret := none) (hs := []) (by decide) k379 ?_
  intro p e s m below meth c hx hb hr hml hown hts hlocks hnm hT hOK hadm
  have K0 : mh_K0 p s m ([.ref a, .int (nI key), .int (mh_b v.isSome), .long u]).toArray c "MeldHost$Intention" b_IN_write dC dI dA := ⟨hx, hb, hown, hts, hOK.1, hOK.2.1⟩
  have hX := hOK.2.2.2.2
  have hb0 := hOK.2.2.2.1
  have hS : va_S (mh_A b) s.heap s.heap [] := va_S.rf
  have hl := lv_entry ([.ref a, .int (nI key), .int (mh_b v.isSome), .long u]) (n := 6) (Nat.le_of_ble_eq_true rfl)
  rw [lg_entry_eq]
  generalize (lg_sl ([.ref a, .int (nI key), .int (mh_b v.isSome), .long u]) ++ List.replicate (6 - (lg_sl ([.ref a, .int (nI key), .int (mh_b v.isSome), .long u])).length) Slot.unset).toArray = ls at hl ⊢
  have hl : lv_has ls 6 [(0, .ref a), (1, .int (nI key)), (2, .int (mh_b v.isSome)), (3, .long u)] := hl
  refine lv_aload_n hx hb d_IN_write_0 rfl (lv_at hl 0 rfl) ?_
  refine lv_iload_n hx hb d_IN_write_1 rfl (lv_at hl 1 rfl) ?_
  refine mh_callR (mh_sV (rest := []) (av := [.int (nI key)]) K0 hX i0 rfl e_IN_placeOf l_IN_57 k316 kp3 rfl rfl d_IN_write_2) (c_IN_placeOf hI ho_ hk) K0 hOK hml hl.1 e_IN_placeOf hX hS d_IN_write_2 (Nat.le_of_ble_eq_true rfl) (Nat.le_of_ble_eq_true rfl) (Nat.le_of_ble_eq_true rfl) (Nat.le_of_ble_eq_true rfl) (Nat.le_of_ble_eq_true rfl) (fun H locs hX hS => ?_)
  refine W.eq (g2 := F0 m 5 ls [.int (nI (st_pl (iv_wk x) key (iv_nw x)))]) rfl ?_
  refine lv_istore (lv' := [(5, .int (nI (st_pl (iv_wk x) key (iv_nw x)))), (0, .ref a), (1, .int (nI key)), (2, .int (mh_b v.isSome)), (3, .long u)]) hx hb d_IN_write_5 hl (by decide) rfl (fun ls hl => ?_)
  refine lv_iload hx hb d_IN_write_7 (lv_at hl 0 rfl) ?_
  refine lv_bipush (v := nI 8) hx hb d_IN_write_9 (by decide) ?_
  refine mh_icmp_lt (tgt := 15) hx hb (by omega) (by omega) d_IN_write_11 (by decide) (fun _ => ?_) (fun z => absurd z (by omega))
  refine lv_aload_n hx hb d_IN_write_15 rfl (lv_at hl 1 rfl) ?_
  refine mh_get K0 hX i0 f_IN_25 rfl d_IN_write_16 ?_
  refine lv_iload hx hb d_IN_write_19 (lv_at hl 0 rfl) ?_
  refine lv_iload_n hx hb d_IN_write_21 rfl (lv_at hl 2 rfl) ?_
  refine mh_iastN K0 hX hS i5 (by omega) (by omega) d_IN_write_22 (fun H locs hX hS => ?_)
  have fs32 := mh_self hX
  refine lv_aload_n hx hb d_IN_write_23 rfl (lv_at hl 1 rfl) ?_
  refine mh_get K0 hX (mh_kp i0 (by omega)) f_IN_28 rfl d_IN_write_24 ?_
  refine lv_iload hx hb d_IN_write_27 (lv_at hl 0 rfl) ?_
  refine lv_iload_n hx hb d_IN_write_29 rfl (lv_at hl 3 rfl) ?_
  refine mh_zastN K0 hX hS (mh_kp i6 (by omega)) (mh_b_vn _) (by omega) (by omega) d_IN_write_30 (fun H locs hX hS => ?_)
  have fs33 := mh_self hX
  refine lv_aload_n hx hb d_IN_write_31 rfl (lv_at hl 1 rfl) ?_
  refine mh_get K0 hX (mh_kp (mh_kp i0 (by omega)) (by omega)) f_IN_32 rfl d_IN_write_32 ?_
  refine lv_iload hx hb d_IN_write_35 (lv_at hl 0 rfl) ?_
  refine lv_lload_n hx hb d_IN_write_37 rfl (lv_at hl 4 rfl) ?_
  refine mh_lastN K0 hX hS (mh_kp (mh_kp i7 (by omega)) (by omega)) (by omega) (by omega) d_IN_write_38 (fun H locs hX hS => ?_)
  have fs34 := mh_self hX
  refine lv_aload_n hx hb d_IN_write_39 rfl (lv_at hl 1 rfl) ?_
  refine lv_aload_n hx hb d_IN_write_40 rfl (lv_at hl 1 rfl) ?_
  refine mh_get K0 hX (mh_kp (mh_kp (mh_kp i0 (by omega)) (by omega)) (by omega)) f_IN_61 rfl d_IN_write_41 ?_
  refine lv_iload hx hb d_IN_write_44 (lv_at hl 0 rfl) ?_
  refine lv_iconst (v := nI 1) hx hb d_IN_write_46 (by decide) ?_
  refine mh_addN hx hb d_IN_write_47 ?_
  refine va_mmax (rest := [.ref a]) hx hb (by rw [hml]; exact hl.1.symm) hown (hts _ k380) (hts _ k381) (hts _ k20) (hts _ k382) (Nat.le_of_ble_eq_true rfl) (Nat.le_of_ble_eq_true rfl) (Nat.le_of_ble_eq_true rfl) (Nat.le_of_ble_eq_true rfl) d_IN_write_48 ?_
  refine mh_ti (y := nI (max (iv_nw x) ((st_pl (iv_wk x) key (iv_nw x)) + 1))) (mh_mmax (by omega) (by omega)) ?_
  refine mh_put K0 hX hS (mh_kp (mh_kp (mh_kp i0 (by omega)) (by omega)) (by omega)) f_IN_61 p_2_10 rfl rfl (Nat.le_of_ble_eq_true rfl) d_IN_write_51 (fun H locs hX hS => ?_)
  have hX : mh_P (dC, dI) b (mh_set _ k i (some (a, .inr (2, [.int (nI (iv_sv x)), .int (nI (iv_sn x)), .int (nI (iv_lv x)), .ref a1, .ref a3, .ref a4, .ref a5, .ref a6, .ref a7, .int (nI (iv_np x)), .int (nI (max (iv_nw x) ((st_pl (iv_wk x) key (iv_nw x)) + 1))), .int (mh_b (iv_gd x))])))) H := hX
  have fs35 := mh_self hX
  refine mh_vret K0 hr hlocks hX hS (⟨rfl, ⟨a1, a3, a4, a5, a6, a7, lo, hi, _, _, _, fs35, hK.to (fun z hz => by repeat rw [mh_set_ne _ _ _ _ (by omega)]) (fun j _ => rfl), (mh_kp (mh_kp (mh_kp (mh_kp i3 (by omega)) (by omega)) (by omega)) (by omega)), (mh_kp (mh_kp (mh_kp (mh_kp i4 (by omega)) (by omega)) (by omega)) (by omega)), (mh_kp (mh_kp (mh_kp fs32 (by omega)) (by omega)) (by omega)), (mh_kp (mh_kp fs33 (by omega)) (by omega)), (mh_kp fs34 (by omega)), hlo, fun j hj => ?_⟩, ((((mh_F.rf.set (by omega) (by omega)).set (by omega) (by omega)).set (by omega) (by omega)).set (by omega) (by omega))⟩) (Nat.le_of_ble_eq_true rfl) (Nat.le_of_ble_eq_true rfl) d_IN_write_54
  have hj : j < max (iv_nw x) ((st_pl (iv_wk x) key (iv_nw x)) + 1) := hj
  show upd wk (st_pl (iv_wk x) key (iv_nw x)) (nI key) j = nI (va_up (iv_wk x) (st_pl (iv_wk x) key (iv_nw x)) key j) ∧ upd hn (st_pl (iv_wk x) key (iv_nw x)) (mh_b v.isSome) j = mh_b (va_up (iv_wv x) (st_pl (iv_wk x) key (iv_nw x)) v j).isSome ∧ ∀ z, va_up (iv_wv x) (st_pl (iv_wk x) key (iv_nw x)) v j = some z → vp_updL nn (st_pl (iv_wk x) key (iv_nw x)) u j = z
  by_cases e9 : j = (st_pl (iv_wk x) key (iv_nw x))
  · rw [e9, pk_us, pk_us, pk_uLs, va_up_self, va_up_self]; exact ⟨rfl, rfl, hu⟩
  · rw [pk_un e9, pk_un e9, pk_uLn e9, va_up_ne _ _ e9, va_up_ne _ _ e9]; exact hwk j (by omega)
set_option maxHeartbeats 4000000 in
set_option maxRecDepth 100000 in
theorem c_IN_writeInto {l : Launch} {b : Nat} {dC : Nat → ClassId} {dI : Nat → Nat → Nat} {dA : Nat → ClassId} {zs : Nat → Nat} {w : mh_w} {k i a m0 : Nat} {x : st_I} (h : rI dA w k i a x) (ho : iv_ok m0 x) {kn im an : Nat} {st : Nat → Option Int64} (hN : rN dA w kn im an st) (hd : k + 8 ≤ kn ∨ kn + 4 ≤ k) : mh_Met l b dC dI dA zs y_IN_writeInto (mh_rm 2 0 0) [.ref a, .ref an] w (mh_V none (fun w' => rN dA w' kn im an (st_aw (iv_wk x) (iv_wv x) st (iv_nw x)) ∧ mh_F w w' kn 4 im)) := by
  have ho_ := ho
  have hI := h
  obtain ⟨a1, a3, a4, a5, a6, a7, lo, hi, wk, hn, nn, i0, hK, i3, i4, i5, i6, i7, hlo, hwk⟩ := h
  have hK2 := hK
  obtain ⟨kb1, kfb, hk0, hk1, hkf⟩ := hK2
  obtain ⟨o1, o2, o3, o4, o5, o6, o7, o8⟩ := ho
  refine mh_ofW (cc := b_IN_writeInto) (n := 3) (ret := none) (hs := []) (by decide) k556 ?_
  intro p e s m below meth c hx hb hr hml hown hts hlocks hnm hT hOK hadm
  have K0 : mh_K0 p s m ([.ref a, .ref an]).toArray c "MeldHost$Intention" b_IN_writeInto dC dI dA := ⟨hx, hb, hown, hts, hOK.1, hOK.2.1⟩
  have hX := hOK.2.2.2.2
  have hb0 := hOK.2.2.2.1
  have hS : va_S (mh_A b) s.heap s.heap [] := va_S.rf
  have hl := lv_entry ([.ref a, .ref an]) (n := 3) (Nat.le_of_ble_eq_true rfl)
  rw [lg_entry_eq]
  generalize (lg_sl ([.ref a, .ref an]) ++ List.replicate (3 - (lg_sl ([.ref a, .ref an])).length) Slot.unset).toArray = ls at hl ⊢
  have hl : lv_has ls 3 [(0, .ref a), (1, .ref an)] := hl
  refine lv_iconst (v := nI 0) hx hb d_IN_writeInto_0 (by decide) ?_
  refine lv_istore_n (lv' := [(2, .int (nI 0)), (0, .ref a), (1, .ref an)]) hx hb d_IN_writeInto_1 rfl hl (by decide) rfl (fun ls hl => ?_)
  have LP : ∀ (n : Nat) (j : Nat) (w1 : mh_w) (H : Heap) (locs : List Loc) (ls : Array Slot), mh_P (dC, dI) b w1 H → va_S (mh_A b) s.heap H locs → lv_has ls 3 [(2, .int (nI j)), (0, .ref a), (1, .ref an)] → (j + n = iv_nw x) → (rN dA w1 kn im an (st_aw (iv_wk x) (iv_wv x) st j)) → (mh_F w w1 kn 4 im) → W p l e (mh_rm 2 0 0) s m ([.ref a, .ref an]).toArray below meth c H locs (0) (0) (mh_MQ below b dC dI (mh_V none (fun w' => rN dA w' kn im an (st_aw (iv_wk x) (iv_wv x) st (iv_nw x)) ∧ mh_F w w' kn 4 im)) ([.ref a, .ref an]).toArray s 0 0) (F0 m 2 ls []) := by
    intro n
    induction n with
    | zero =>
      intro j w1 H locs ls hX hS hl hn9 hN1 hF
      refine lv_iload_n hx hb d_IN_writeInto_2 rfl (lv_at hl 0 rfl) ?_
      refine lv_aload_n hx hb d_IN_writeInto_3 rfl (lv_at hl 1 rfl) ?_
      refine mh_get K0 hX ((hF k i (by omega)).trans i0) f_IN_61 rfl d_IN_writeInto_4 ?_
      refine mh_icmp_ge (tgt := 54) hx hb (by omega) (by omega) d_IN_writeInto_7 (by decide) (fun _ => ?_) (fun z => absurd z (by omega))
      exact mh_vret K0 hr hlocks hX hS (⟨rfl, by rw [show iv_nw x = j by omega]; exact hN1, hF⟩) (Nat.le_of_ble_eq_true rfl) (Nat.le_of_ble_eq_true rfl) d_IN_writeInto_54
    | succ n ih =>
      intro j w1 H locs ls hX hS hl hn9 hN1 hF
      have b7 := o7 j (by omega)
      have hN2 := hN1
      obtain ⟨d1, d3, df, dz, -⟩ := hN2
      refine lv_iload_n hx hb d_IN_writeInto_2 rfl (lv_at hl 0 rfl) ?_
      refine lv_aload_n hx hb d_IN_writeInto_3 rfl (lv_at hl 1 rfl) ?_
      refine mh_get K0 hX ((hF k i (by omega)).trans i0) f_IN_61 rfl d_IN_writeInto_4 ?_
      refine mh_icmp_ge (tgt := 54) hx hb (by omega) (by omega) d_IN_writeInto_7 (by decide) (fun z => absurd z (by omega)) (fun _ => ?_)
      refine lv_aload_n hx hb d_IN_writeInto_10 rfl (lv_at hl 1 rfl) ?_
      refine mh_get K0 hX ((hF k i (by omega)).trans i0) f_IN_28 rfl d_IN_writeInto_11 ?_
      refine lv_iload_n hx hb d_IN_writeInto_14 rfl (lv_at hl 0 rfl) ?_
      refine mh_zaldN K0 hX ((hF (k + 6) i (by omega)).trans i6) (by omega) (by omega) d_IN_writeInto_15 ?_
      refine mh_ti (y := mh_b ((iv_wv x j).isSome)) ((hwk j (by omega)).2.1) ?_
      refine mh_ifeqB (tgt := 38) hx hb d_IN_writeInto_16 (by decide) (fun ct => ?_) (fun cf => ?_)
      · skip
        have ev : iv_wv x j = none := by cases e9 : iv_wv x j with | none => rfl | some z => rw [e9] at ct; cases ct
        refine lv_aload_n hx hb d_IN_writeInto_38 rfl (lv_at hl 2 rfl) ?_
        refine lv_aload_n hx hb d_IN_writeInto_39 rfl (lv_at hl 1 rfl) ?_
        refine mh_get K0 hX ((hF k i (by omega)).trans i0) f_IN_25 rfl d_IN_writeInto_40 ?_
        refine lv_iload_n hx hb d_IN_writeInto_43 rfl (lv_at hl 0 rfl) ?_
        refine mh_ialdN K0 hX ((hF (k + 5) i (by omega)).trans i5) (by omega) (by omega) d_IN_writeInto_44 ?_
        refine mh_ti (y := nI (iv_wk x j)) ((hwk j (by omega)).1) ?_
        refine mh_callV (mh_sV (rest := []) (av := [.int (nI (iv_wk x j))]) K0 hX dz rfl e_NU_take l_IN_82 k396 k397 rfl rfl d_IN_writeInto_45) (c_NU_take hN1 b7) K0 hOK hml hl.1 e_NU_take hX hS d_IN_writeInto_45 (Nat.le_of_ble_eq_true rfl) (Nat.le_of_ble_eq_true rfl) (Nat.le_of_ble_eq_true rfl) (Nat.le_of_ble_eq_true rfl) (Nat.le_of_ble_eq_true rfl) (fun w2 H locs ⟨hN3, hF2⟩ hX hS => ?_)
        refine W.eq (g2 := F0 m 48 ls []) rfl ?_
        refine lv_iinc (v := nI (j + 1)) (k := 0) (lv' := [(2, .int (nI (j + 1))), (0, .ref a), (1, .ref an)]) hx hb d_IN_writeInto_48 hl rfl (mh_inc j) (by decide) rfl (fun ls hl => ?_)
        refine lv_goto (tgt := 2) hx hb d_IN_writeInto_51 (by decide) ?_
        exact ih (j + 1) _ _ _ _ hX hS hl (by omega) (by rw [st_aw, ev]; exact hN3) (fun k2 i2 h2 => (hF2 k2 i2 h2).trans (hF k2 i2 h2))
      · skip
        obtain ⟨u, hu⟩ := Option.isSome_iff_exists.mp cf
        refine lv_aload_n hx hb d_IN_writeInto_19 rfl (lv_at hl 2 rfl) ?_
        refine lv_aload_n hx hb d_IN_writeInto_20 rfl (lv_at hl 1 rfl) ?_
        refine mh_get K0 hX ((hF k i (by omega)).trans i0) f_IN_25 rfl d_IN_writeInto_21 ?_
        refine lv_iload_n hx hb d_IN_writeInto_24 rfl (lv_at hl 0 rfl) ?_
        refine mh_ialdN K0 hX ((hF (k + 5) i (by omega)).trans i5) (by omega) (by omega) d_IN_writeInto_25 ?_
        refine mh_ti (y := nI (iv_wk x j)) ((hwk j (by omega)).1) ?_
        refine lv_aload_n hx hb d_IN_writeInto_26 rfl (lv_at hl 1 rfl) ?_
        refine mh_get K0 hX ((hF k i (by omega)).trans i0) f_IN_32 rfl d_IN_writeInto_27 ?_
        refine lv_iload_n hx hb d_IN_writeInto_30 rfl (lv_at hl 0 rfl) ?_
        refine mh_laldN K0 hX ((hF (k + 7) i (by omega)).trans i7) (by omega) (by omega) d_IN_writeInto_31 ?_
        refine mh_tl (y := u) ((hwk j (by omega)).2.2 u hu) ?_
        refine mh_callV (mh_sV (rest := []) (av := [.int (nI (iv_wk x j)), .long u]) K0 hX dz rfl e_NU_give l_IN_76 k384 k385 rfl rfl d_IN_writeInto_32) (c_NU_give hN1 b7) K0 hOK hml hl.1 e_NU_give hX hS d_IN_writeInto_32 (Nat.le_of_ble_eq_true rfl) (Nat.le_of_ble_eq_true rfl) (Nat.le_of_ble_eq_true rfl) (Nat.le_of_ble_eq_true rfl) (Nat.le_of_ble_eq_true rfl) (fun w2 H locs ⟨hN3, hF2⟩ hX hS => ?_)
        refine W.eq (g2 := F0 m 35 ls []) rfl ?_
        refine lv_goto (tgt := 48) hx hb d_IN_writeInto_35 (by decide) ?_
        refine lv_iinc (v := nI (j + 1)) (k := 0) (lv' := [(2, .int (nI (j + 1))), (0, .ref a), (1, .ref an)]) hx hb d_IN_writeInto_48 hl rfl (mh_inc j) (by decide) rfl (fun ls hl => ?_)
        refine lv_goto (tgt := 2) hx hb d_IN_writeInto_51 (by decide) ?_
        exact ih (j + 1) _ _ _ _ hX hS hl (by omega) (by rw [st_aw, hu]; exact hN3) (fun k2 i2 h2 => (hF2 k2 i2 h2).trans (hF k2 i2 h2))
  exact LP (iv_nw x) 0 _ _ _ _ hX hS hl (Nat.zero_add _) hN mh_F.rf
set_option maxHeartbeats 4000000 in
set_option maxRecDepth 100000 in
theorem c_IN_signInto {l : Launch} {b : Nat} {dC : Nat → ClassId} {dI : Nat → Nat → Nat} {dA : Nat → ClassId} {zs : Nat → Nat} {w : mh_w} {k i a m0 : Nat} {x : st_I} (h : rI dA w k i a x) (ho : iv_ok m0 x) {ka ia al : Nat} {g : Nat → Int32} {v : Int32} (hg : w ka ia = some (al, .inl (dA 0, 256, .inl g))) (hd : k + 8 ≤ ka ∨ ka + 1 ≤ k) : mh_Met l b dC dI dA zs y_IN_signInto (mh_rm 0 0 0) [.ref a, .ref al, .int v] w (mh_V none (fun w' => (∃ g' : Nat → Int32, w' ka ia = some (al, .inl (dA 0, 256, .inl g')) ∧ ∀ z, z < 256 → g' z = if st_pl (iv_wk x) z (iv_nw x) < iv_nw x then v else g z) ∧ mh_F w w' ka 1 ia)) := by
  have ho_ := ho
  have hI := h
  obtain ⟨a1, a3, a4, a5, a6, a7, lo, hi, wk, hn, nn, i0, hK, i3, i4, i5, i6, i7, hlo, hwk⟩ := h
  have hK2 := hK
  obtain ⟨kb1, kfb, hk0, hk1, hkf⟩ := hK2
  obtain ⟨o1, o2, o3, o4, o5, o6, o7, o8⟩ := ho
  refine mh_ofW (cc := b_IN_signInto) (n := 4) (ret := none) (hs := []) (by decide) k562 ?_
  intro p e s m below meth c hx hb hr hml hown hts hlocks hnm hT hOK hadm
  have K0 : mh_K0 p s m ([.ref a, .ref al, .int v]).toArray c "MeldHost$Intention" b_IN_signInto dC dI dA := ⟨hx, hb, hown, hts, hOK.1, hOK.2.1⟩
  have hX := hOK.2.2.2.2
  have hb0 := hOK.2.2.2.1
  have hS : va_S (mh_A b) s.heap s.heap [] := va_S.rf
  have hl := lv_entry ([.ref a, .ref al, .int v]) (n := 4) (Nat.le_of_ble_eq_true rfl)
  rw [lg_entry_eq]
  generalize (lg_sl ([.ref a, .ref al, .int v]) ++ List.replicate (4 - (lg_sl ([.ref a, .ref al, .int v])).length) Slot.unset).toArray = ls at hl ⊢
  have hl : lv_has ls 4 [(0, .ref a), (1, .ref al), (2, .int v)] := hl
  refine lv_iconst (v := nI 0) hx hb d_IN_signInto_0 (by decide) ?_
  refine lv_istore_n (lv' := [(3, .int (nI 0)), (0, .ref a), (1, .ref al), (2, .int v)]) hx hb d_IN_signInto_1 rfl hl (by decide) rfl (fun ls hl => ?_)
  have LP : ∀ (n : Nat) (j : Nat) (w1 : mh_w) (g1 : Nat → Int32) (H : Heap) (locs : List Loc) (ls : Array Slot), mh_P (dC, dI) b w1 H → va_S (mh_A b) s.heap H locs → lv_has ls 4 [(3, .int (nI j)), (0, .ref a), (1, .ref al), (2, .int v)] → (j + n = iv_nw x) → (w1 ka ia = some (al, .inl (dA 0, 256, .inl g1))) → (∀ z, z < 256 → g1 z = if st_pl (iv_wk x) z j < j then v else g z) → (mh_F w w1 ka 1 ia) → W p l e (mh_rm 0 0 0) s m ([.ref a, .ref al, .int v]).toArray below meth c H locs (0) (0) (mh_MQ below b dC dI (mh_V none (fun w' => (∃ g' : Nat → Int32, w' ka ia = some (al, .inl (dA 0, 256, .inl g')) ∧ ∀ z, z < 256 → g' z = if st_pl (iv_wk x) z (iv_nw x) < iv_nw x then v else g z) ∧ mh_F w w' ka 1 ia)) ([.ref a, .ref al, .int v]).toArray s 0 0) (F0 m 2 ls []) := by
    intro n
    induction n with
    | zero =>
      intro j w1 g1 H locs ls hX hS hl hn9 hg1 hz hF
      refine lv_iload_n hx hb d_IN_signInto_2 rfl (lv_at hl 0 rfl) ?_
      refine lv_aload_n hx hb d_IN_signInto_3 rfl (lv_at hl 1 rfl) ?_
      refine mh_get K0 hX ((hF k i (by omega)).trans i0) f_IN_61 rfl d_IN_signInto_4 ?_
      refine mh_icmp_ge (tgt := 25) hx hb (by omega) (by omega) d_IN_signInto_7 (by decide) (fun _ => ?_) (fun z => absurd z (by omega))
      exact mh_vret K0 hr hlocks hX hS (⟨rfl, ⟨g1, hg1, by rw [show iv_nw x = j by omega]; exact hz⟩, hF⟩) (Nat.le_of_ble_eq_true rfl) (Nat.le_of_ble_eq_true rfl) d_IN_signInto_25
    | succ n ih =>
      intro j w1 g1 H locs ls hX hS hl hn9 hg1 hz hF
      have b7 := o7 j (by omega)
      refine lv_iload_n hx hb d_IN_signInto_2 rfl (lv_at hl 0 rfl) ?_
      refine lv_aload_n hx hb d_IN_signInto_3 rfl (lv_at hl 1 rfl) ?_
      refine mh_get K0 hX ((hF k i (by omega)).trans i0) f_IN_61 rfl d_IN_signInto_4 ?_
      refine mh_icmp_ge (tgt := 25) hx hb (by omega) (by omega) d_IN_signInto_7 (by decide) (fun z => absurd z (by omega)) (fun _ => ?_)
      refine lv_aload_n hx hb d_IN_signInto_10 rfl (lv_at hl 2 rfl) ?_
      refine lv_aload_n hx hb d_IN_signInto_11 rfl (lv_at hl 1 rfl) ?_
      refine mh_get K0 hX ((hF k i (by omega)).trans i0) f_IN_25 rfl d_IN_signInto_12 ?_
      refine lv_iload_n hx hb d_IN_signInto_15 rfl (lv_at hl 0 rfl) ?_
      refine mh_ialdN K0 hX ((hF (k + 5) i (by omega)).trans i5) (by omega) (by omega) d_IN_signInto_16 ?_
      refine mh_ti (y := nI (iv_wk x j)) ((hwk j (by omega)).1) ?_
      refine lv_iload_n hx hb d_IN_signInto_17 rfl (lv_at hl 3 rfl) ?_
      refine mh_iastN K0 hX hS hg1 (by omega) (by omega) d_IN_signInto_18 (fun H locs hX hS => ?_)
      have fs36 := mh_self hX
      refine lv_iinc (v := nI (j + 1)) (k := 0) (lv' := [(3, .int (nI (j + 1))), (0, .ref a), (1, .ref al), (2, .int v)]) hx hb d_IN_signInto_19 hl rfl (mh_inc j) (by decide) rfl (fun ls hl => ?_)
      refine lv_goto (tgt := 2) hx hb d_IN_signInto_22 (by decide) ?_
      refine ih (j + 1) _ _ _ _ _ hX hS hl (by omega) (mh_set_eq _ _ _ _) (fun z hz2 => ?_) (hF.set (by omega) (by omega))
      by_cases e9 : z = iv_wk x j
      · rw [e9, pk_us, if_pos ((st_pl_succ _ _ _).mpr (Or.inr rfl))]
      · rw [pk_un e9, hz z hz2]
        by_cases e8 : st_pl (iv_wk x) z j < j
        · rw [if_pos e8, if_pos ((st_pl_succ _ _ _).mpr (Or.inl e8))]
        · rw [if_neg e8, if_neg (fun q => ((st_pl_succ _ _ _).mp q).elim e8 (fun q => e9 q.symm))]
  exact LP (iv_nw x) 0 _ _ _ _ _ hX hS hl (Nat.zero_add _) hg (fun z hz => by rw [if_neg (Nat.not_lt_zero _)]) mh_F.rf
set_option maxHeartbeats 4000000 in
set_option maxRecDepth 100000 in
theorem c_IN_tell {l : Launch} {b : Nat} {dC : Nat → ClassId} {dI : Nat → Nat → Nat} {dA : Nat → ClassId} {zs : Nat → Nat} {w : mh_w} {k i a m0 : Nat} {x : st_I} (h : rI dA w k i a x) (ho : iv_ok m0 x) {q : Nat} (hq : q < 6) : mh_Met l b dC dI dA zs y_IN_tell (mh_rm 2 0 0) [.ref a, .int (nI q)] w (mh_V (some (.int (nI (sp_tell x (nI q))))) (fun w' => w' = w)) := by
  have ho_ := ho
  have hI := h
  obtain ⟨a1, a3, a4, a5, a6, a7, lo, hi, wk, hn, nn, i0, hK, i3, i4, i5, i6, i7, hlo, hwk⟩ := h
  have hK2 := hK
  obtain ⟨kb1, kfb, hk0, hk1, hkf⟩ := hK2
  obtain ⟨o1, o2, o3, o4, o5, o6, o7, o8⟩ := ho
  refine mh_ofW (cc := b_IN_tell) (n := 2) (ret := (some .int)) (hs := []) (by decide) k622 ?_
  intro p e s m below meth c hx hb hr hml hown hts hlocks hnm hT hOK hadm
  have K0 : mh_K0 p s m ([.ref a, .int (nI q)]).toArray c "MeldHost$Intention" b_IN_tell dC dI dA := ⟨hx, hb, hown, hts, hOK.1, hOK.2.1⟩
  have hX := hOK.2.2.2.2
  have hb0 := hOK.2.2.2.1
  have hS : va_S (mh_A b) s.heap s.heap [] := va_S.rf
  have hl := lv_entry ([.ref a, .int (nI q)]) (n := 2) (Nat.le_of_ble_eq_true rfl)
  rw [lg_entry_eq]
  generalize (lg_sl ([.ref a, .int (nI q)]) ++ List.replicate (2 - (lg_sl ([.ref a, .int (nI q)])).length) Slot.unset).toArray = ls at hl ⊢
  have hl : lv_has ls 2 [(0, .ref a), (1, .int (nI q))] := hl
  refine lv_iload_n hx hb d_IN_tell_0 rfl (lv_at hl 1 rfl) ?_
  have hq4 : q = 0 ∨ q = 1 ∨ q = 2 ∨ q = 3 ∨ q = 4 ∨ q = 5 := by omega
  rcases hq4 with rfl | rfl | rfl | rfl | rfl | rfl
  · skip
    refine lv_tableIn (tgt := 36) hx hb d_IN_tell_1 (by decide) (by decide) (off := 35) (by decide) (by decide) ?_
    refine lv_aload_n hx hb d_IN_tell_36 rfl (lv_at hl 0 rfl) ?_
    refine mh_get K0 hX i0 f_IN_40 rfl d_IN_tell_37 ?_
    exact mh_iret K0 hr rfl hlocks hX hS (⟨rfl, rfl⟩) (Nat.le_of_ble_eq_true rfl) (Nat.le_of_ble_eq_true rfl) d_IN_tell_40
  · skip
    refine lv_tableIn (tgt := 41) hx hb d_IN_tell_1 (by decide) (by decide) (off := 40) (by decide) (by decide) ?_
    refine lv_aload_n hx hb d_IN_tell_41 rfl (lv_at hl 0 rfl) ?_
    refine mh_get K0 hX i0 f_IN_43 rfl d_IN_tell_42 ?_
    exact mh_iret K0 hr rfl hlocks hX hS (⟨rfl, rfl⟩) (Nat.le_of_ble_eq_true rfl) (Nat.le_of_ble_eq_true rfl) d_IN_tell_45
  · skip
    refine lv_tableIn (tgt := 46) hx hb d_IN_tell_1 (by decide) (by decide) (off := 45) (by decide) (by decide) ?_
    refine lv_aload_n hx hb d_IN_tell_46 rfl (lv_at hl 0 rfl) ?_
    refine mh_get K0 hX i0 f_IN_12 rfl d_IN_tell_47 ?_
    refine mh_callR (mh_sV (rest := []) (av := []) K0 hX hk0 rfl e_KS_size l_IN_85 k624 k625 rfl rfl d_IN_tell_50) (c_KS_size hK) K0 hOK hml hl.1 e_KS_size hX hS d_IN_tell_50 (Nat.le_of_ble_eq_true rfl) (Nat.le_of_ble_eq_true rfl) (Nat.le_of_ble_eq_true rfl) (Nat.le_of_ble_eq_true rfl) (Nat.le_of_ble_eq_true rfl) (fun H locs hX hS => ?_)
    refine W.eq (g2 := F0 m 53 ls [.int (nI (pb_cnt (iv_rd x) 256))]) rfl ?_
    exact mh_iret K0 hr rfl hlocks hX hS (⟨rfl, rfl⟩) (Nat.le_of_ble_eq_true rfl) (Nat.le_of_ble_eq_true rfl) d_IN_tell_53
  · skip
    refine lv_tableIn (tgt := 54) hx hb d_IN_tell_1 (by decide) (by decide) (off := 53) (by decide) (by decide) ?_
    refine lv_aload_n hx hb d_IN_tell_54 rfl (lv_at hl 0 rfl) ?_
    refine mh_get K0 hX i0 f_IN_54 rfl d_IN_tell_55 ?_
    exact mh_iret K0 hr rfl hlocks hX hS (⟨rfl, rfl⟩) (Nat.le_of_ble_eq_true rfl) (Nat.le_of_ble_eq_true rfl) d_IN_tell_58
  · skip
    refine lv_tableIn (tgt := 59) hx hb d_IN_tell_1 (by decide) (by decide) (off := 58) (by decide) (by decide) ?_
    refine lv_aload_n hx hb d_IN_tell_59 rfl (lv_at hl 0 rfl) ?_
    refine mh_get K0 hX i0 f_IN_61 rfl d_IN_tell_60 ?_
    exact mh_iret K0 hr rfl hlocks hX hS (⟨rfl, rfl⟩) (Nat.le_of_ble_eq_true rfl) (Nat.le_of_ble_eq_true rfl) d_IN_tell_63
  · skip
    refine lv_tableOut (tgt := 64) hx hb d_IN_tell_1 (Or.inr (by decide)) (by decide) ?_
    refine lv_aload_n hx hb d_IN_tell_64 rfl (lv_at hl 0 rfl) ?_
    refine mh_get K0 hX i0 f_IN_36 rfl d_IN_tell_65 ?_
    exact mh_iret K0 hr rfl hlocks hX hS (⟨rfl, rfl⟩) (Nat.le_of_ble_eq_true rfl) (Nat.le_of_ble_eq_true rfl) d_IN_tell_68
set_option maxHeartbeats 4000000 in
set_option maxRecDepth 100000 in
theorem c_SV_init {l : Launch} {b : Nat} {dC : Nat → ClassId} {dI : Nat → Nat → Nat} {dA : Nat → ClassId} {zs : Nat → Nat} {w : mh_w} {i a : Nat} (h : w 4 i = some (a, .inr (3, [.null, .null, .int (nI 0), .int (nI 0)]))) : mh_Met l b dC dI dA zs y_SV_init (mh_rm 3 5 519) [.ref a] w (mh_V none (fun w' => rS dA w' i a (fun _ => none) (fun _ => -1) 0 0 ∧ mh_F w w' 4 6 i)) := by
  refine mh_ofW (cc := b_SV_init) (n := 1) (ret := none) (hs := []) (by decide) k64 ?_
  intro p e s m below meth c hx hb hr hml hown hts hlocks hnm hT hOK hadm
  have K0 : mh_K0 p s m ([.ref a]).toArray c "MeldHost$Server" b_SV_init dC dI dA := ⟨hx, hb, hown, hts, hOK.1, hOK.2.1⟩
  have hX := hOK.2.2.2.2
  have hb0 := hOK.2.2.2.1
  have hS : va_S (mh_A b) s.heap s.heap [] := va_S.rf
  have hl := lv_entry ([.ref a]) (n := 1) (Nat.le_of_ble_eq_true rfl)
  rw [lg_entry_eq]
  generalize (lg_sl ([.ref a]) ++ List.replicate (1 - (lg_sl ([.ref a])).length) Slot.unset).toArray = ls at hl ⊢
  have hl : lv_has ls 1 [(0, .ref a)] := hl
  refine lv_aload_n hx hb d_SV_init_0 rfl (lv_at hl 0 rfl) ?_
  refine W.objInit hx hb hown (hts _ k65) (hts _ k31) (hts _ k32) rfl (by rw [hml]; exact hl.1) rfl d_SV_init_1 (Nat.le_of_ble_eq_true rfl) (Nat.le_of_ble_eq_true rfl) ?_
  refine W.eq (g2 := F0 m 4 ls []) rfl ?_
  refine lv_aload_n hx hb d_SV_init_4 rfl (lv_at hl 0 rfl) ?_
  refine mh_new 5 i K0 hX hS hb0 (ci := 1) rfl i_NU ty_NU ty_NU_ok k66 k67 k6 (fs := [.null, .null]) (by decide) (Nat.le_of_ble_eq_true rfl) (Nat.le_of_ble_eq_true rfl) d_SV_init_5 (fun q5 H hX hS => ?_)
  have fs37 := mh_self hX
  refine lv_dup hx hb d_SV_init_8 rfl ?_
  refine mh_callV (mh_sI (rest := [.ref q5, .ref a]) (av := []) K0 e_NU_init l_SV_11 k69 rfl rfl rfl d_SV_init_9) (c_NU_init (mh_set_eq _ _ _ _)) K0 hOK hml hl.1 e_NU_init hX hS d_SV_init_9 (Nat.le_of_ble_eq_true rfl) (Nat.le_of_ble_eq_true rfl) (Nat.le_of_ble_eq_true rfl) (Nat.le_of_ble_eq_true rfl) (Nat.le_of_ble_eq_true rfl) (fun w1 H locs ⟨hN, hF⟩ hX hS => ?_)
  refine W.eq (g2 := F0 m 12 ls [.ref q5, .ref a]) rfl ?_
  refine mh_putF K0 hX hS ((hF 4 i (by omega)).trans (mh_kp h (by omega))) f_SV_12 p_3_0 hnm (fun C T N h => by cases h; rfl) rfl rfl (Nat.le_of_ble_eq_true rfl) d_SV_init_12 (fun C T N h => by cases h; exact k95) (fun H locs hX hS => ?_)
  have hX : mh_P (dC, dI) b (mh_set _ 4 i (some (a, .inr (3, [.ref q5, .null, .int (nI 0), .int (nI 0)])))) H := hX
  have fs38 := mh_self hX
  refine lv_aload_n hx hb d_SV_init_15 rfl (lv_at hl 0 rfl) ?_
  refine lv_sipush (v := nI 256) hx hb d_SV_init_16 (by decide) ?_
  refine mh_newa 9 i 0 K0 hX hS hb0 (ty := .int) rfl rfl k112 (N' := 256) (a0 := (256, .inl (fun _ => 0))) (fun cA => rfl) (by decide) (by decide) (by decide) (Nat.le_of_ble_eq_true rfl) (Nat.le_of_ble_eq_true rfl) d_SV_init_19 (fun q9 H hX hS => ?_)
  have fs39 := mh_self hX
  refine mh_putF K0 hX hS (mh_kp fs38 (by omega)) f_SV_18 p_3_1 hnm (fun C T N h => by cases h; rfl) rfl rfl (Nat.le_of_ble_eq_true rfl) d_SV_init_21 (fun C T N h => by cases h; exact k97) (fun H locs hX hS => ?_)
  have hX : mh_P (dC, dI) b (mh_set _ 4 i (some (a, .inr (3, [.ref q5, .ref q9, .int (nI 0), .int (nI 0)])))) H := hX
  have fs40 := mh_self hX
  refine lv_aload_n hx hb d_SV_init_24 rfl (lv_at hl 0 rfl) ?_
  refine mh_get K0 hX fs40 f_SV_18 rfl d_SV_init_25 ?_
  refine lv_iconst (v := (-1)) hx hb d_SV_init_28 (by decide) ?_
  refine mh_callV (mh_sS (rest := []) (av := [.ref q9, .int (-1)]) K0 e_AR_fillI l_SV_22 k93 rfl rfl d_SV_init_29) (c_AR_fillI (mh_kp fs39 (by omega)) (by decide)) K0 hOK hml hl.1 e_AR_fillI hX hS d_SV_init_29 (Nat.le_of_ble_eq_true rfl) (Nat.le_of_ble_eq_true rfl) (Nat.le_of_ble_eq_true rfl) (Nat.le_of_ble_eq_true rfl) (Nat.le_of_ble_eq_true rfl) (fun w2 H locs ⟨⟨g, hg, hz⟩, hF2⟩ hX hS => ?_)
  refine W.eq (g2 := F0 m 32 ls []) rfl ?_
  exact mh_vret K0 hr hlocks hX hS (⟨rfl, ⟨q5, q9, g, ((hF2 4 i (by omega)).trans fs40), hN.to (fun z hz => by rw [hF2 _ _ (by omega)]; repeat rw [mh_set_ne _ _ _ _ (by omega)]) (fun j _ => rfl), hg, hz⟩, (mh_F.tr (k := 4) (n := 6) (k1 := 4) (n1 := 6) ((((mh_F.tr (k := 4) (n := 6) (k1 := 4) (n1 := 6) (mh_F.rf.set (by omega) (by omega)) hF (by omega) (by omega) (by omega) (by omega)).set (by omega) (by omega)).set (by omega) (by omega)).set (by omega) (by omega)) hF2 (by omega) (by omega) (by omega) (by omega))⟩) (Nat.le_of_ble_eq_true rfl) (Nat.le_of_ble_eq_true rfl) d_SV_init_32
set_option maxHeartbeats 4000000 in
set_option maxRecDepth 100000 in
theorem c_SV_startOver {l : Launch} {b : Nat} {dC : Nat → ClassId} {dI : Nat → Nat → Nat} {dA : Nat → ClassId} {zs : Nat → Nat} {w : mh_w} {i a g0 gg : Nat} {st : Nat → Option Int64} {lw : Nat → Int32} (h : rS dA w i a st lw g0 gg) : mh_Met l b dC dI dA zs y_SV_startOver (mh_rm 3 0 0) [.ref a] w (mh_V none (fun w' => rS dA w' i a (fun _ => none) (fun _ => -1) 0 0 ∧ mh_F w w' 4 6 i)) := by
  obtain ⟨a5, a9, f, h0, hN, h9, hf⟩ := h
  have hN2 := hN
  obtain ⟨b1, b3, bf, hn0, -⟩ := hN2
  refine mh_ofW (cc := b_SV_startOver) (n := 1) (ret := none) (hs := []) (by decide) k574 ?_
  intro p e s m below meth c hx hb hr hml hown hts hlocks hnm hT hOK hadm
  have K0 : mh_K0 p s m ([.ref a]).toArray c "MeldHost$Server" b_SV_startOver dC dI dA := ⟨hx, hb, hown, hts, hOK.1, hOK.2.1⟩
  have hX := hOK.2.2.2.2
  have hb0 := hOK.2.2.2.1
  have hS : va_S (mh_A b) s.heap s.heap [] := va_S.rf
  have hl := lv_entry ([.ref a]) (n := 1) (Nat.le_of_ble_eq_true rfl)
  rw [lg_entry_eq]
  generalize (lg_sl ([.ref a]) ++ List.replicate (1 - (lg_sl ([.ref a])).length) Slot.unset).toArray = ls at hl ⊢
  have hl : lv_has ls 1 [(0, .ref a)] := hl
  refine lv_aload_n hx hb d_SV_startOver_0 rfl (lv_at hl 0 rfl) ?_
  refine mh_get K0 hX h0 f_SV_12 rfl d_SV_startOver_1 ?_
  refine mh_callV (mh_sV (rest := []) (av := []) K0 hX hn0 rfl e_NU_takeAll l_SV_48 k576 k577 rfl rfl d_SV_startOver_4) (c_NU_takeAll hN) K0 hOK hml hl.1 e_NU_takeAll hX hS d_SV_startOver_4 (Nat.le_of_ble_eq_true rfl) (Nat.le_of_ble_eq_true rfl) (Nat.le_of_ble_eq_true rfl) (Nat.le_of_ble_eq_true rfl) (Nat.le_of_ble_eq_true rfl) (fun w1 H locs ⟨hN1, hF⟩ hX hS => ?_)
  refine W.eq (g2 := F0 m 7 ls []) rfl ?_
  refine lv_aload_n hx hb d_SV_startOver_7 rfl (lv_at hl 0 rfl) ?_
  refine mh_get K0 hX ((hF 4 i (by omega)).trans h0) f_SV_18 rfl d_SV_startOver_8 ?_
  refine lv_iconst (v := (-1)) hx hb d_SV_startOver_11 (by decide) ?_
  refine mh_callV (mh_sS (rest := []) (av := [.ref a9, .int (-1)]) K0 e_AR_fillI l_SV_22 k93 rfl rfl d_SV_startOver_12) (c_AR_fillI ((hF 9 i (by omega)).trans h9) (by decide)) K0 hOK hml hl.1 e_AR_fillI hX hS d_SV_startOver_12 (Nat.le_of_ble_eq_true rfl) (Nat.le_of_ble_eq_true rfl) (Nat.le_of_ble_eq_true rfl) (Nat.le_of_ble_eq_true rfl) (Nat.le_of_ble_eq_true rfl) (fun w2 H locs ⟨⟨g, hg, hz⟩, hF2⟩ hX hS => ?_)
  refine W.eq (g2 := F0 m 15 ls []) rfl ?_
  refine lv_aload_n hx hb d_SV_startOver_15 rfl (lv_at hl 0 rfl) ?_
  refine lv_iconst (v := nI 0) hx hb d_SV_startOver_16 (by decide) ?_
  refine mh_put K0 hX hS ((hF2 4 i (by omega)).trans ((hF 4 i (by omega)).trans h0)) f_SV_38 p_3_2 rfl rfl (Nat.le_of_ble_eq_true rfl) d_SV_startOver_17 (fun H locs hX hS => ?_)
  have hX : mh_P (dC, dI) b (mh_set _ 4 i (some (a, .inr (3, [.ref a5, .ref a9, .int (nI 0), .int (nI gg)])))) H := hX
  have fs41 := mh_self hX
  refine lv_aload_n hx hb d_SV_startOver_20 rfl (lv_at hl 0 rfl) ?_
  refine lv_iconst (v := nI 0) hx hb d_SV_startOver_21 (by decide) ?_
  refine mh_put K0 hX hS fs41 f_SV_45 p_3_3 rfl rfl (Nat.le_of_ble_eq_true rfl) d_SV_startOver_22 (fun H locs hX hS => ?_)
  have hX : mh_P (dC, dI) b (mh_set _ 4 i (some (a, .inr (3, [.ref a5, .ref a9, .int (nI 0), .int (nI 0)])))) H := hX
  have fs42 := mh_self hX
  exact mh_vret K0 hr hlocks hX hS (⟨rfl, ⟨a5, a9, g, fs42, hN1.to (fun z hz => by (repeat rw [mh_set_ne _ _ _ _ (by omega)]); exact hF2 _ _ (by omega)) (fun j _ => rfl), (mh_kp (mh_kp hg (by omega)) (by omega)), hz⟩, (((mh_F.tr (k := 4) (n := 6) (k1 := 4) (n1 := 6) (mh_F.tr (k := 4) (n := 6) (k1 := 4) (n1 := 6) mh_F.rf hF (by omega) (by omega) (by omega) (by omega)) hF2 (by omega) (by omega) (by omega) (by omega)).set (by omega) (by omega)).set (by omega) (by omega))⟩) (Nat.le_of_ble_eq_true rfl) (Nat.le_of_ble_eq_true rfl) d_SV_startOver_25
set_option maxHeartbeats 4000000 in
set_option maxRecDepth 100000 in
theorem c_SV_goThrough {l : Launch} {b : Nat} {dC : Nat → ClassId} {dI : Nat → Nat → Nat} {dA : Nat → ClassId} {zs : Nat → Nat} {w : mh_w} {i a g0 gg : Nat} {st : Nat → Option Int64} {lw : Nat → Int32} (h : rS dA w i a st lw g0 gg) {k2 i2 c0 m2 : Nat} {x : st_I} (h2 : rI dA w k2 i2 c0 x) (ho2 : iv_ok m2 x) (hd : 10 ≤ k2) : mh_Met l b dC dI dA zs y_SV_goThrough (mh_rm 3 0 0) [.ref a, .ref c0] w (mh_V none (fun w' => rS dA w' i a (if iv_gd x = true then st_aw (iv_wk x) (iv_wv x) st (iv_nw x) else st) (fun z => if iv_gd x = true ∧ st_pl (iv_wk x) z (iv_nw x) < iv_nw x then nI g0 else lw z) (g0 + 1) (if iv_gd x = true then gg + 1 else gg) ∧ mh_F w w' 4 6 i)) := by
  obtain ⟨a5, a9, f, h0, hN, h9, hf⟩ := h
  have hN2 := hN
  obtain ⟨b1, b3, bf, hn0, -⟩ := hN2
  have hI := h2
  obtain ⟨c1, c3, c4, c5, c6, c7, lo2, hi2, wk2, hn2, nn2, j0, hK3, j3, j4, j5, j6, j7, hlo2, hwk2⟩ := h2
  refine mh_ofW (cc := b_SV_goThrough) (n := 2) (ret := none) (hs := []) (by decide) k552 ?_
  intro p e s m below meth c hx hb hr hml hown hts hlocks hnm hT hOK hadm
  have K0 : mh_K0 p s m ([.ref a, .ref c0]).toArray c "MeldHost$Server" b_SV_goThrough dC dI dA := ⟨hx, hb, hown, hts, hOK.1, hOK.2.1⟩
  have hX := hOK.2.2.2.2
  have hb0 := hOK.2.2.2.1
  have hS : va_S (mh_A b) s.heap s.heap [] := va_S.rf
  have hl := lv_entry ([.ref a, .ref c0]) (n := 2) (Nat.le_of_ble_eq_true rfl)
  rw [lg_entry_eq]
  generalize (lg_sl ([.ref a, .ref c0]) ++ List.replicate (2 - (lg_sl ([.ref a, .ref c0])).length) Slot.unset).toArray = ls at hl ⊢
  have hl : lv_has ls 2 [(0, .ref a), (1, .ref c0)] := hl
  refine lv_aload_n hx hb d_SV_goThrough_0 rfl (lv_at hl 1 rfl) ?_
  refine mh_get K0 hX j0 f_SV_28 rfl d_SV_goThrough_1 ?_
  refine mh_ifeqB (tgt := 37) hx hb d_SV_goThrough_4 (by decide) (fun ct => ?_) (fun cf => ?_)
  · skip
    refine lv_aload_n hx hb d_SV_goThrough_37 rfl (lv_at hl 0 rfl) ?_
    refine lv_dup hx hb d_SV_goThrough_38 rfl ?_
    refine mh_get K0 hX h0 f_SV_38 rfl d_SV_goThrough_39 ?_
    refine lv_iconst (v := nI 1) hx hb d_SV_goThrough_42 (by decide) ?_
    refine mh_addN hx hb d_SV_goThrough_43 ?_
    refine mh_put K0 hX hS h0 f_SV_38 p_3_2 rfl rfl (Nat.le_of_ble_eq_true rfl) d_SV_goThrough_44 (fun H locs hX hS => ?_)
    have hX : mh_P (dC, dI) b (mh_set _ 4 i (some (a, .inr (3, [.ref a5, .ref a9, .int (nI (g0 + 1)), .int (nI gg)])))) H := hX
    have fs43 := mh_self hX
    exact mh_vret K0 hr hlocks hX hS (⟨rfl, ⟨a5, a9, f, by rw [ct]; exact fs43, by rw [ct]; exact hN.to (fun z hz => by repeat rw [mh_set_ne _ _ _ _ (by omega)]) (fun j _ => rfl), (mh_kp h9 (by omega)), fun j hj => (hf j hj).trans (if_neg (fun q => by rw [ct] at q; cases q.1)).symm⟩, (mh_F.rf.set (by omega) (by omega))⟩) (Nat.le_of_ble_eq_true rfl) (Nat.le_of_ble_eq_true rfl) d_SV_goThrough_47
  · skip
    refine lv_aload_n hx hb d_SV_goThrough_7 rfl (lv_at hl 1 rfl) ?_
    refine lv_aload_n hx hb d_SV_goThrough_8 rfl (lv_at hl 0 rfl) ?_
    refine mh_get K0 hX h0 f_SV_12 rfl d_SV_goThrough_9 ?_
    refine mh_callV (mh_sV (rest := []) (av := [.ref a5]) K0 hX j0 rfl e_IN_writeInto l_SV_34 k554 k555 rfl rfl d_SV_goThrough_12) (c_IN_writeInto hI ho2 hN (by omega)) K0 hOK hml hl.1 e_IN_writeInto hX hS d_SV_goThrough_12 (Nat.le_of_ble_eq_true rfl) (Nat.le_of_ble_eq_true rfl) (Nat.le_of_ble_eq_true rfl) (Nat.le_of_ble_eq_true rfl) (Nat.le_of_ble_eq_true rfl) (fun w1 H locs ⟨hN1, hF⟩ hX hS => ?_)
    refine W.eq (g2 := F0 m 15 ls []) rfl ?_
    refine lv_aload_n hx hb d_SV_goThrough_15 rfl (lv_at hl 1 rfl) ?_
    refine lv_aload_n hx hb d_SV_goThrough_16 rfl (lv_at hl 0 rfl) ?_
    refine mh_get K0 hX ((hF 4 i (by omega)).trans h0) f_SV_18 rfl d_SV_goThrough_17 ?_
    refine lv_aload_n hx hb d_SV_goThrough_20 rfl (lv_at hl 0 rfl) ?_
    refine mh_get K0 hX ((hF 4 i (by omega)).trans h0) f_SV_38 rfl d_SV_goThrough_21 ?_
    refine mh_callV (mh_sV (rest := []) (av := [.ref a9, .int (nI g0)]) K0 hX ((hF k2 i2 (by omega)).trans j0) rfl e_IN_signInto l_SV_42 k560 k561 rfl rfl d_SV_goThrough_24) (c_IN_signInto (hI.to (fun z hz => hF _ _ (by omega))) ho2 ((hF 9 i (by omega)).trans h9) (by omega)) K0 hOK hml hl.1 e_IN_signInto hX hS d_SV_goThrough_24 (Nat.le_of_ble_eq_true rfl) (Nat.le_of_ble_eq_true rfl) (Nat.le_of_ble_eq_true rfl) (Nat.le_of_ble_eq_true rfl) (Nat.le_of_ble_eq_true rfl) (fun w2 H locs ⟨⟨g, hg, hz⟩, hF2⟩ hX hS => ?_)
    refine W.eq (g2 := F0 m 27 ls []) rfl ?_
    refine lv_aload_n hx hb d_SV_goThrough_27 rfl (lv_at hl 0 rfl) ?_
    refine lv_dup hx hb d_SV_goThrough_28 rfl ?_
    refine mh_get K0 hX ((hF2 4 i (by omega)).trans ((hF 4 i (by omega)).trans h0)) f_SV_45 rfl d_SV_goThrough_29 ?_
    refine lv_iconst (v := nI 1) hx hb d_SV_goThrough_32 (by decide) ?_
    refine mh_addN hx hb d_SV_goThrough_33 ?_
    refine mh_put K0 hX hS ((hF2 4 i (by omega)).trans ((hF 4 i (by omega)).trans h0)) f_SV_45 p_3_3 rfl rfl (Nat.le_of_ble_eq_true rfl) d_SV_goThrough_34 (fun H locs hX hS => ?_)
    have hX : mh_P (dC, dI) b (mh_set _ 4 i (some (a, .inr (3, [.ref a5, .ref a9, .int (nI g0), .int (nI (gg + 1))])))) H := hX
    have fs44 := mh_self hX
    refine lv_aload_n hx hb d_SV_goThrough_37 rfl (lv_at hl 0 rfl) ?_
    refine lv_dup hx hb d_SV_goThrough_38 rfl ?_
    refine mh_get K0 hX fs44 f_SV_38 rfl d_SV_goThrough_39 ?_
    refine lv_iconst (v := nI 1) hx hb d_SV_goThrough_42 (by decide) ?_
    refine mh_addN hx hb d_SV_goThrough_43 ?_
    refine mh_put K0 hX hS fs44 f_SV_38 p_3_2 rfl rfl (Nat.le_of_ble_eq_true rfl) d_SV_goThrough_44 (fun H locs hX hS => ?_)
    have hX : mh_P (dC, dI) b (mh_set _ 4 i (some (a, .inr (3, [.ref a5, .ref a9, .int (nI (g0 + 1)), .int (nI (gg + 1))])))) H := hX
    have fs45 := mh_self hX
    exact mh_vret K0 hr hlocks hX hS (⟨rfl, ⟨a5, a9, g, by rw [cf]; exact fs45, by rw [cf]; exact hN1.to (fun z hz => by (repeat rw [mh_set_ne _ _ _ _ (by omega)]); exact hF2 _ _ (by omega)) (fun j _ => rfl), (mh_kp (mh_kp hg (by omega)) (by omega)), fun j hj => by rw [hz j hj, cf, hf j hj]; simp⟩, (((mh_F.tr (k := 4) (n := 6) (k1 := 4) (n1 := 6) (mh_F.tr (k := 4) (n := 6) (k1 := 4) (n1 := 6) mh_F.rf hF (by omega) (by omega) (by omega) (by omega)) hF2 (by omega) (by omega) (by omega) (by omega)).set (by omega) (by omega)).set (by omega) (by omega))⟩) (Nat.le_of_ble_eq_true rfl) (Nat.le_of_ble_eq_true rfl) d_SV_goThrough_47
