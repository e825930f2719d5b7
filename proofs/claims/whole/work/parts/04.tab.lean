/-! printed by wip/whole/gen_tab.py: the interpreter's tables -/
def xOwns : List String := [RJ0, RJ4, RJx00060, RJx4a65c, RX0, RX1, RX2, RX3, RX4, RX5, RX6, RX7, RX8, RX9, RX10, RX11, RX12, RL, RJ7, RJ9, RJ6, RJxc12de, RJxa1e45, RJ15, RJ3, RJ8]
def xOwn (o : Nat) : String := xOwns.getD o ""
def xTy : List FieldType := [.int, .long, .byte, .boolean, .object "java/lang/Object", .object "AgreedStore$Server", .object "AgreedStore$Client", .object "AgreedStore$Page"]
def xYs : List MethodName := [yJx4a65c_add_72be8, yJx4a65c_add_7a177, yJx4a65c_add_9ea2d, yJx4a65c_clear_da8c8, yJx4a65c_elementData_915e3, yJx4a65c_fastRemove_b59b0, yJx4a65c_get_915e3, yJx4a65c_grow_92f84, yJx4a65c_grow_d5877, yJx4a65c_init_da8c8, yJx4a65c_isEmpty_aae02, yJx4a65c_outOfBoundsMsg_b52d3, yJx4a65c_rangeCheckForAdd_d00df, yJx4a65c_remove_915e3, yJx4a65c_size_8abf5, yX0_add, yX0_addBytes, yX0_init, yX0_setTold, yX0_tell, yX1_beTold, yX1_begin, yX1_giveIn, yX1_hear, yX1_hearDone, yX1_hearElsewhere, yX1_init, yX1_isCommand, yX1_sendRequest, yX1_setAlarm, yX1_turnToNext, yX1_wake, yX2_append, yX2_baseMoved, yX2_cutFrom, yX2_cutTo, yX2_fall, yX2_find, yX2_findChain, yX2_firstSegment, yX2_init, yX2_isChained, yX2_isSegment, yX2_later, yX2_openSegment, yX2_remove, yX2_segmentAt, yX2_snapshotSize, yX2_syncAll, yX2_syncFile, yX2_tell, yX2_tellsTerm, yX2_writeSlot, yX2_writeSnapshot, yX3_begin, yX3_init, yX3_isReached, yX3_most, yX3_mostOf, yX4_copyFrom, yX4_fill, yX4_init, yX5_add, yX5_at, yX5_clear, yX5_cutFrom, yX5_findMembers, yX5_has, yX5_init, yX5_length, yX5_membersBehind, yX5_membersUpTo, yX5_moveBase, yX5_rowOf, yX5_runStart, yX5_termAt, yX6_admit, yX6_clear, yX6_compare, yX6_copyKey, yX6_copyValue, yX6_dropOldestSession, yX6_findSession, yX6_hasValue, yX6_init, yX6_insertKey, yX6_isKey, yX6_load, yX6_loadSessions, yX6_look, yX6_lowerBound, yX6_mayStore, yX6_numberAt, yX6_openSession, yX6_operate, yX6_putKey, yX6_removeKey, yX6_save, yX6_saveNumber, yX6_savedSize, yX6_say, yX6_sayNext, yX6_storeValue, yX6_swapKey, yX6_unitsOf, yX7_add, yX7_cutTo, yX7_frameStart, yX7_init, yX7_lastTerm, yX7_makeRoom, yX7_makeRoomForBytes, yX7_remove, yX7_takeOver, yX7_write, yX8_begin, yX8_drop, yX8_dropAll, yX8_init, yX8_slotOf, yX8_waitsFor, yX9_answerReads, yX9_append, yX9_apply, yX9_areKnown, yX9_askVoters, yX9_beDown, yX9_beat, yX9_campaign, yX9_comeUp, yX9_compact, yX9_countMatches, yX9_dispatch, yX9_fall, yX9_fits, yX9_follow, yX9_goDown, yX9_handOver, yX9_hears, yX9_heeds, yX9_init, yX9_isAsNew, yX9_isMajority, yX9_keepPiece, yX9_letterTo, yX9_loadLog, yX9_loadTerm, yX9_mayLead, yX9_maySetMembers, yX9_moveMembers, yX9_peers, yX9_postWaiting, yX9_putEntries, yX9_putPiece, yX9_receive, yX9_reply, yX9_saveTerm, yX9_sendAppended, yX9_sendBack, yX9_sendStored, yX9_sendTo, yX9_sendToAll, yX9_sendVote, yX9_setMembers, yX9_settle, yX9_soil, yX9_stepDown, yX9_sync, yX9_takeAnswer, yX9_takeAppended, yX9_takeAsk, yX9_takeDue, yX9_takeEntries, yX9_takeGo, yX9_takeLead, yX9_takePiece, yX9_takePreanswer, yX9_takePreask, yX9_takeRequest, yX9_takeSnapshot, yX9_takeStored, yX9_tell, yX9_voters, yX9_wake, yX10_areParted, yX10_blank, yX10_deferLetter, yX10_doubleLetter, yX10_drawAlarm, yX10_drawn, yX10_dropLetter, yX10_firstBell, yX10_firstLetter, yX10_hasLetter, yX10_hush, yX10_init, yX10_isBefore, yX10_launch, yX10_lose, yX10_post, yX10_setBell, yX10_takeBell, yX10_takeFirstLetter, yX11_answer, yX11_ask, yX11_asker, yX11_byteAt, yX11_client, yX11_count, yX11_crash, yX11_delay, yX11_end, yX11_entry, yX11_feed, yX11_file, yX11_giveUp, yX11_hand, yX11_happen, yX11_history, yX11_host, yX11_init, yX11_isAskable, yX11_isEndpoint, yX11_key, yX11_latency, yX11_learners, yX11_machineWith, yX11_meddle, yX11_members, yX11_message, yX11_noise, yX11_now, yX11_part, yX11_putOnTape, yX11_run, yX11_server, yX11_start, yX11_step, yX11_stop, yX11_value, yX12_add, yX12_alarm, yX12_answer, yX12_answerReads, yX12_append, yX12_appendCode, yX12_apply, yX12_areParted, yX12_ask, yX12_asked, yX12_assemble, yX12_beat, yX12_byteAt, yX12_came, yX12_campaign, yX12_canChange, yX12_client, yX12_codeIn, yX12_common, yX12_compact, yX12_compare, yX12_copyFile, yX12_copyLetter, yX12_copySession, yX12_count, yX12_count0, yX12_crash, yX12_crashFiles, yX12_cut, yX12_cutLog, yX12_delay, yX12_demand, yX12_down, yX12_draw, yX12_drawAlarm, yX12_dropRequests, yX12_end, yX12_entry, yX12_feed, yX12_file, yX12_fileOf, yX12_find, yX12_findCode, yX12_findNext, yX12_fly, yX12_follower, yX12_forget, yX12_fresh, yX12_giveUp, yX12_hand, yX12_happen, yX12_heardOf, yX12_history, yX12_hold, yX12_in, yX12_inLetter, yX12_inLog, yX12_init, yX12_integer, yX12_isAsNew, yX12_isAsking, yX12_isCommand, yX12_isEndpoint, yX12_isMajority, yX12_isPeer, yX12_isSegment, yX12_isVoter, yX12_keep, yX12_key, yX12_keyAt, yX12_kth, yX12_latency, yX12_lay, yX12_lay4, yX12_layDisk, yX12_layLetter, yX12_layLog, yX12_laySlot, yX12_lead, yX12_learned, yX12_learners, yX12_led, yX12_logOf, yX12_look, yX12_meddle, yX12_members, yX12_message, yX12_nextContent, yX12_noise, yX12_now, yX12_old, yX12_onDisk, yX12_open, yX12_operate, yX12_pack, yX12_packAll, yX12_part, yX12_pause, yX12_perform, yX12_post, yX12_postReply, yX12_postVoters, yX12_query, yX12_rank, yX12_readAt, yX12_recover, yX12_recoverLog, yX12_removeFile, yX12_reply, yX12_resign, yX12_ring, yX12_ringClient, yX12_run, yX12_say, yX12_send, yX12_sendAll, yX12_sendOut, yX12_server, yX12_sessionOf, yX12_size, yX12_soil, yX12_start, yX12_step, yX12_stepDown, yX12_stop, yX12_sync, yX12_syncAll, yX12_syncFile, yX12_take, yX12_tell, yX12_tellClient, yX12_tellValue, yX12_termAt, yX12_thrown, yX12_trim, yX12_units, yX12_unpack, yX12_unpackAll, yX12_value, yX12_vote, yX12_voters, yX12_write, yX12_writeEntries, yX12_writeShot, yX12_writeSlot, yL_cell, yJ7_checkLength_df160, yJ7_copyOfRangeByte_39247, yJ7_copyOfRange_39247, yJ7_copyOf_1904c, yJ7_copyOf_59c91, yJ7_copyOf_6403c, yJ7_copyOf_9075b, yJ7_fill_53178, yJ7_fill_fda19, yJ7_rangeCheck_23922, yJ9_max_7cf53, yJ9_min_7cf53, yJ6_bitCount_0f7a4, yJ6_getChars_ba4f3, yJ6_stringSize_0f7a4, yJxc12de_init_da8c8, yJxa1e45_init_da8c8, yJ15_checkIndex_7cf53, yJ3_checkFromIndexSize_8c36e, yJ3_checkFromToIndex_8c36e, yJ3_checkIndex_8e157, yJ8_hugeLength_7cf53, yJ8_newLength_cabcc]
def xMn (i : Nat) : MethodName := xYs.getD i yX0_tell
def xCl (i : Nat) : vw_C := vwCl.getD i ("", fun _ => ("", "", "", false), 0)
def xwF (q : (Nat × Nat) × Nat × Nat) : Jvm.Cond := .fieldLink (xOwn q.1.1) q.1.2 ((xCl q.2.1).2.1 q.2.2).1 ((xCl q.2.1).2.1 q.2.2).2.1 ((xCl q.2.1).2.1 q.2.2).2.2.1
def xwM (q : (Nat × Nat) × Nat) : Jvm.Cond := .methodLink (xOwn q.1.1) q.1.2 (xMn q.2)
def xwN (q : (Nat × Nat) × Nat) : Jvm.Cond := .methodLinkNest (xOwn q.1.1) q.1.2 (xMn q.2) "AgreedStore"
def xwC (q : Nat × ByteArray × Nat × Option FieldType × Nat) : Jvm.Cond := .code (xMn q.1) q.2.1 q.2.2.1 q.2.2.2.1
def xwK (q : (Nat × Nat) × Nat) : Jvm.Cond := .classLink (xOwn q.1.1) q.1.2 (xCl q.2).1
def xwc (q : (Nat × Nat) × Int32) : Jvm.Cond := .constant (xOwn q.1.1) q.1.2 q.2
def xwl (q : (Nat × Nat) × Int64) : Jvm.Cond := .constantLong (xOwn q.1.1) q.1.2 q.2
def xwS (i : Nat) : Jvm.Cond := .static (xMn i)
def xwI (i : Nat) : Jvm.Cond := .instanceMethod (xMn i)
def xwE (i : Nat) : Jvm.Cond := .selects (xMn i).cls (xMn i) (xMn i)
def xwZ (i : Nat) : Jvm.Cond := .initialized (xOwn i)
def xwT (i : Nat) : Jvm.Cond := .instantiable (xCl i).1 (xCl i).2.2
def xwA (q : (Nat × Nat) × Nat) : Jvm.Cond := .classLink (xOwn q.1.1) q.1.2 (match xTy.getD q.2 .int with | .object c => c | _ => "")
def xwB (q : Nat × Nat) : Jvm.Cond := .methodLink (xOwn q.1) q.2 objectInit
def xwP (q : Nat × Nat) : Jvm.Cond := .methodLink (xOwn q.1) q.2 arraycopyName
def xMax : Nat := 396
def xMin : Nat := 397
theorem xin_p1 : ∀ w ∈ k2_sels lw_privs_1, w ∈ lw_tbl := fun w h => List.mem_append_left _ (by obtain ⟨q, h, e⟩ := List.mem_map.mp h; exact List.mem_map.mpr ⟨q, List.mem_append_left _ h, e⟩)
theorem xin_p2 : ∀ w ∈ k2_sels lw_privs_2, w ∈ lw_tbl := fun w h => List.mem_append_left _ (by obtain ⟨q, h, e⟩ := List.mem_map.mp h; exact List.mem_map.mpr ⟨q, List.mem_append_right _ (List.mem_append_left _ h), e⟩)
theorem xin_p3 : ∀ w ∈ k2_sels lw_privs_3, w ∈ lw_tbl := fun w h => List.mem_append_left _ (by obtain ⟨q, h, e⟩ := List.mem_map.mp h; exact List.mem_map.mpr ⟨q, List.mem_append_right _ (List.mem_append_right _ (List.mem_append_left _ h)), e⟩)
theorem xin_p4 : ∀ w ∈ k2_sels lw_privs_4, w ∈ lw_tbl := fun w h => List.mem_append_left _ (by obtain ⟨q, h, e⟩ := List.mem_map.mp h; exact List.mem_map.mpr ⟨q, List.mem_append_right _ (List.mem_append_right _ (List.mem_append_right _ (List.mem_append_left _ h))), e⟩)
theorem xin_p5 : ∀ w ∈ k2_sels lw_privs_5, w ∈ lw_tbl := fun w h => List.mem_append_left _ (by obtain ⟨q, h, e⟩ := List.mem_map.mp h; exact List.mem_map.mpr ⟨q, List.mem_append_right _ (List.mem_append_right _ (List.mem_append_right _ (List.mem_append_right _ (List.mem_append_left _ h)))), e⟩)
theorem xin_p6 : ∀ w ∈ k2_sels lw_privs_6, w ∈ lw_tbl := fun w h => List.mem_append_left _ (by obtain ⟨q, h, e⟩ := List.mem_map.mp h; exact List.mem_map.mpr ⟨q, List.mem_append_right _ (List.mem_append_right _ (List.mem_append_right _ (List.mem_append_right _ (List.mem_append_right _ (List.mem_append_left _ h))))), e⟩)
theorem xin_p7 : ∀ w ∈ k2_sels lw_privs_7, w ∈ lw_tbl := fun w h => List.mem_append_left _ (by obtain ⟨q, h, e⟩ := List.mem_map.mp h; exact List.mem_map.mpr ⟨q, List.mem_append_right _ (List.mem_append_right _ (List.mem_append_right _ (List.mem_append_right _ (List.mem_append_right _ (List.mem_append_right _ (List.mem_append_left _ h)))))), e⟩)
theorem xin_p8 : ∀ w ∈ k2_sels lw_privs_8, w ∈ lw_tbl := fun w h => List.mem_append_left _ (by obtain ⟨q, h, e⟩ := List.mem_map.mp h; exact List.mem_map.mpr ⟨q, List.mem_append_right _ (List.mem_append_right _ (List.mem_append_right _ (List.mem_append_right _ (List.mem_append_right _ (List.mem_append_right _ (List.mem_append_right _ (List.mem_append_left _ h))))))), e⟩)
theorem xin_p9 : ∀ w ∈ k2_sels lw_privs_9, w ∈ lw_tbl := fun w h => List.mem_append_left _ (by obtain ⟨q, h, e⟩ := List.mem_map.mp h; exact List.mem_map.mpr ⟨q, List.mem_append_right _ (List.mem_append_right _ (List.mem_append_right _ (List.mem_append_right _ (List.mem_append_right _ (List.mem_append_right _ (List.mem_append_right _ (List.mem_append_right _ (List.mem_append_left _ h)))))))), e⟩)
theorem xin_p10 : ∀ w ∈ k2_sels lw_privs_10, w ∈ lw_tbl := fun w h => List.mem_append_left _ (by obtain ⟨q, h, e⟩ := List.mem_map.mp h; exact List.mem_map.mpr ⟨q, List.mem_append_right _ (List.mem_append_right _ (List.mem_append_right _ (List.mem_append_right _ (List.mem_append_right _ (List.mem_append_right _ (List.mem_append_right _ (List.mem_append_right _ (List.mem_append_right _ (List.mem_append_left _ h))))))))), e⟩)
theorem xin_p11 : ∀ w ∈ k2_sels lw_privs_11, w ∈ lw_tbl := fun w h => List.mem_append_left _ (by obtain ⟨q, h, e⟩ := List.mem_map.mp h; exact List.mem_map.mpr ⟨q, List.mem_append_right _ (List.mem_append_right _ (List.mem_append_right _ (List.mem_append_right _ (List.mem_append_right _ (List.mem_append_right _ (List.mem_append_right _ (List.mem_append_right _ (List.mem_append_right _ (List.mem_append_right _ (List.mem_append_left _ h)))))))))), e⟩)
theorem xin_p12 : ∀ w ∈ k2_sels lw_privs_12, w ∈ lw_tbl := fun w h => List.mem_append_left _ (by obtain ⟨q, h, e⟩ := List.mem_map.mp h; exact List.mem_map.mpr ⟨q, List.mem_append_right _ (List.mem_append_right _ (List.mem_append_right _ (List.mem_append_right _ (List.mem_append_right _ (List.mem_append_right _ (List.mem_append_right _ (List.mem_append_right _ (List.mem_append_right _ (List.mem_append_right _ (List.mem_append_right _ (List.mem_append_left _ h))))))))))), e⟩)
theorem xin_p13 : ∀ w ∈ k2_sels lw_privs_13, w ∈ lw_tbl := fun w h => List.mem_append_left _ (by obtain ⟨q, h, e⟩ := List.mem_map.mp h; exact List.mem_map.mpr ⟨q, List.mem_append_right _ (List.mem_append_right _ (List.mem_append_right _ (List.mem_append_right _ (List.mem_append_right _ (List.mem_append_right _ (List.mem_append_right _ (List.mem_append_right _ (List.mem_append_right _ (List.mem_append_right _ (List.mem_append_right _ (List.mem_append_right _ (h)))))))))))), e⟩)
theorem xin_t1 : ∀ w ∈ tables_1_1, w ∈ lw_tbl := fun w h => List.mem_append_right _ (List.mem_append_left _ h)
theorem xin_t2 : ∀ w ∈ tables_1_2, w ∈ lw_tbl := fun w h => List.mem_append_right _ (List.mem_append_right _ (List.mem_append_left _ h))
theorem xin_t3 : ∀ w ∈ tables_1_3, w ∈ lw_tbl := fun w h => List.mem_append_right _ (List.mem_append_right _ (List.mem_append_right _ (List.mem_append_left _ h)))
theorem xin_t4 : ∀ w ∈ tables_1_4, w ∈ lw_tbl := fun w h => List.mem_append_right _ (List.mem_append_right _ (List.mem_append_right _ (List.mem_append_right _ (List.mem_append_left _ h))))
theorem xin_t5 : ∀ w ∈ tables_1_5, w ∈ lw_tbl := fun w h => List.mem_append_right _ (List.mem_append_right _ (List.mem_append_right _ (List.mem_append_right _ (List.mem_append_right _ (List.mem_append_left _ h)))))
theorem xin_t6 : ∀ w ∈ tables_1_6, w ∈ lw_tbl := fun w h => List.mem_append_right _ (List.mem_append_right _ (List.mem_append_right _ (List.mem_append_right _ (List.mem_append_right _ (List.mem_append_right _ (List.mem_append_left _ h))))))
theorem xin_t7 : ∀ w ∈ tables_1_7, w ∈ lw_tbl := fun w h => List.mem_append_right _ (List.mem_append_right _ (List.mem_append_right _ (List.mem_append_right _ (List.mem_append_right _ (List.mem_append_right _ (List.mem_append_right _ (List.mem_append_left _ h)))))))
theorem xin_t8 : ∀ w ∈ tables_1_8, w ∈ lw_tbl := fun w h => List.mem_append_right _ (List.mem_append_right _ (List.mem_append_right _ (List.mem_append_right _ (List.mem_append_right _ (List.mem_append_right _ (List.mem_append_right _ (List.mem_append_right _ (List.mem_append_left _ h))))))))
theorem xin_t9 : ∀ w ∈ tables_1_9, w ∈ lw_tbl := fun w h => List.mem_append_right _ (List.mem_append_right _ (List.mem_append_right _ (List.mem_append_right _ (List.mem_append_right _ (List.mem_append_right _ (List.mem_append_right _ (List.mem_append_right _ (List.mem_append_right _ (List.mem_append_left _ h)))))))))
theorem xin_t10 : ∀ w ∈ tables_1_10, w ∈ lw_tbl := fun w h => List.mem_append_right _ (List.mem_append_right _ (List.mem_append_right _ (List.mem_append_right _ (List.mem_append_right _ (List.mem_append_right _ (List.mem_append_right _ (List.mem_append_right _ (List.mem_append_right _ (List.mem_append_right _ (List.mem_append_left _ h))))))))))
theorem xin_t11 : ∀ w ∈ tables_1_11, w ∈ lw_tbl := fun w h => List.mem_append_right _ (List.mem_append_right _ (List.mem_append_right _ (List.mem_append_right _ (List.mem_append_right _ (List.mem_append_right _ (List.mem_append_right _ (List.mem_append_right _ (List.mem_append_right _ (List.mem_append_right _ (List.mem_append_right _ (List.mem_append_left _ h)))))))))))
theorem xin_t12 : ∀ w ∈ tables_1_12, w ∈ lw_tbl := fun w h => List.mem_append_right _ (List.mem_append_right _ (List.mem_append_right _ (List.mem_append_right _ (List.mem_append_right _ (List.mem_append_right _ (List.mem_append_right _ (List.mem_append_right _ (List.mem_append_right _ (List.mem_append_right _ (List.mem_append_right _ (List.mem_append_right _ (List.mem_append_left _ h))))))))))))
theorem xin_t13 : ∀ w ∈ tables_1_13, w ∈ lw_tbl := fun w h => List.mem_append_right _ (List.mem_append_right _ (List.mem_append_right _ (List.mem_append_right _ (List.mem_append_right _ (List.mem_append_right _ (List.mem_append_right _ (List.mem_append_right _ (List.mem_append_right _ (List.mem_append_right _ (List.mem_append_right _ (List.mem_append_right _ (List.mem_append_right _ (List.mem_append_left _ h)))))))))))))
theorem xin_t14 : ∀ w ∈ tables_1_14, w ∈ lw_tbl := fun w h => List.mem_append_right _ (List.mem_append_right _ (List.mem_append_right _ (List.mem_append_right _ (List.mem_append_right _ (List.mem_append_right _ (List.mem_append_right _ (List.mem_append_right _ (List.mem_append_right _ (List.mem_append_right _ (List.mem_append_right _ (List.mem_append_right _ (List.mem_append_right _ (List.mem_append_right _ (h))))))))))))))
theorem x_sub {big ws : List Jvm.Cond} (ps : List Nat) (hp : ps.filterMap (fun i => big[i]?) = ws) : ∀ w ∈ ws, w ∈ big := by
  intro w hw
  rw [← hp] at hw
  obtain ⟨i, -, hi⟩ := List.mem_filterMap.mp hw
  first | exact List.mem_of_getElem? hi | exact List.getElem?_mem hi
theorem x_app {big a b : List Jvm.Cond} (ha : ∀ w ∈ a, w ∈ big) (hb : ∀ w ∈ b, w ∈ big) : ∀ w ∈ a ++ b, w ∈ big := fun w h => (List.mem_append.mp h).elim (ha w) (hb w)
theorem x_nil {big : List Jvm.Cond} : ∀ w ∈ ([] : List Jvm.Cond), w ∈ big := fun _ h => absurd h List.not_mem_nil
def xfT_t1_0 : List ((Nat × Nat) × Nat × Nat) := [((3, 9), 3, 1), ((3, 48), 3, 2), ((4, 11), 4, 2), ((4, 15), 4, 3), ((4, 19), 4, 0), ((4, 29), 4, 1), ((4, 32), 4, 4), ((5, 108), 14, 0), ((6, 38), 11, 1), ((6, 41), 11, 0), ((6, 59), 11, 8), ((6, 69), 11, 9), ((6, 83), 11, 2), ((6, 96), 11, 5), ((6, 136), 11, 3), ((6, 156), 11, 6), ((10, 139), 4, 3), ((11, 9), 11, 6), ((11, 15), 11, 7), ((11, 18), 11, 8), ((11, 22), 11, 0), ((11, 26), 11, 1), ((11, 30), 11, 2), ((11, 33), 11, 3), ((11, 36), 11, 4), ((11, 39), 11, 5), ((11, 42), 11, 9), ((13, 201), 14, 16), ((13, 241), 14, 0), ((13, 263), 11, 2), ((13, 268), 11, 3), ((13, 269), 11, 4), ((13, 276), 11, 8), ((13, 279), 11, 9), ((13, 299), 11, 5), ((13, 302), 11, 6), ((13, 317), 14, 13), ((14, 9), 14, 10), ((14, 15), 14, 11), ((14, 18), 14, 12), ((14, 21), 14, 13), ((14, 24), 14, 14), ((14, 31), 14, 15), ((14, 35), 14, 16), ((14, 44), 14, 5), ((14, 77), 14, 0), ((14, 80), 14, 6), ((14, 83), 14, 7), ((14, 86), 14, 8), ((14, 100), 14, 9), ((14, 108), 14, 4), ((14, 118), 14, 1), ((14, 124), 14, 3), ((14, 141), 14, 2), ((15, 88), 4, 0), ((15, 105), 14, 0), ((15, 121), 14, 12), ((15, 126), 14, 5), ((15, 129), 14, 6), ((15, 132), 14, 7)]
set_option maxRecDepth 20000 in
theorem xfT_t1_0_in : ∀ w ∈ xfT_t1_0.map xwF, w ∈ lw_tbl := fun w h => xin_t1 w (x_sub (big := tables_1_1) [75, 76, 173, 174, 169, 171, 176, 94, 209, 207, 226, 229, 211, 219, 215, 223, 175, 221, 224, 225, 206, 208, 210, 213, 216, 218, 228, 126, 96, 212, 214, 217, 227, 230, 220, 222, 121, 114, 116, 117, 119, 122, 123, 125, 104, 93, 106, 108, 110, 112, 102, 97, 100, 98, 170, 95, 118, 105, 107, 109] rfl w h)
def xfT_t1_1 : List ((Nat × Nat) × Nat × Nat) := [((15, 135), 14, 8), ((15, 138), 14, 9), ((15, 159), 14, 13), ((15, 248), 14, 15), ((15, 305), 14, 3), ((15, 308), 14, 4), ((15, 311), 14, 2), ((15, 314), 4, 1), ((15, 352), 14, 16), ((15, 358), 14, 10)]
set_option maxRecDepth 20000 in
theorem xfT_t1_1_in : ∀ w ∈ xfT_t1_1.map xwF, w ∈ lw_tbl := fun w h => xin_t1 w (x_sub (big := tables_1_1) [111, 113, 120, 124, 101, 103, 99, 172, 127, 115] rfl w h)
def xfT_t2_0 : List ((Nat × Nat) × Nat × Nat) := [((6, 11), 6, 0), ((6, 17), 6, 1), ((6, 20), 6, 2), ((6, 24), 6, 3), ((6, 27), 6, 4), ((6, 30), 6, 6), ((6, 34), 6, 9), ((6, 45), 6, 7), ((6, 48), 6, 8), ((6, 72), 6, 5), ((7, 9), 7, 0), ((7, 15), 7, 1), ((7, 18), 7, 2), ((7, 21), 7, 3), ((7, 24), 7, 4), ((7, 27), 7, 5), ((7, 30), 7, 6), ((7, 34), 7, 7), ((7, 37), 7, 10), ((7, 47), 7, 8), ((7, 50), 7, 9), ((9, 9), 9, 1), ((9, 15), 9, 2), ((9, 18), 9, 0), ((9, 22), 9, 5), ((9, 25), 9, 7), ((9, 28), 9, 3), ((9, 31), 9, 4), ((9, 34), 9, 6), ((9, 67), 9, 8), ((9, 73), 9, 11), ((10, 11), 10, 2), ((10, 15), 10, 3), ((10, 19), 10, 6), ((10, 22), 10, 7), ((10, 25), 10, 8), ((10, 28), 10, 9), ((10, 31), 10, 10), ((10, 34), 10, 14), ((10, 37), 10, 0), ((10, 41), 10, 1), ((10, 45), 10, 4), ((10, 48), 10, 5), ((10, 51), 10, 12), ((10, 54), 10, 13), ((10, 57), 10, 11), ((12, 9), 12, 0), ((12, 15), 12, 1), ((12, 19), 12, 2), ((12, 22), 12, 3), ((12, 25), 12, 4), ((12, 28), 12, 5), ((12, 31), 12, 6), ((12, 34), 12, 7), ((12, 42), 12, 8), ((13, 91), 9, 9), ((13, 94), 9, 10), ((13, 97), 9, 11), ((13, 100), 9, 3), ((13, 103), 9, 6)]
set_option maxRecDepth 20000 in
theorem xfT_t2_0_in : ∀ w ∈ xfT_t2_0.map xwF, w ∈ lw_tbl := fun w h => xin_t2 w (x_sub (big := tables_1_2) [12, 14, 15, 16, 17, 21, 25, 23, 24, 19, 54, 56, 58, 60, 62, 64, 66, 68, 74, 70, 72, 155, 158, 154, 165, 169, 159, 162, 167, 172, 177, 212, 213, 219, 220, 221, 222, 223, 231, 209, 210, 214, 217, 227, 229, 225, 109, 111, 113, 115, 117, 119, 121, 123, 125, 174, 175, 176, 160, 168] rfl w h)
def xfT_t2_1 : List ((Nat × Nat) × Nat × Nat) := [((13, 106), 9, 7), ((13, 112), 7, 10), ((13, 118), 7, 9), ((13, 125), 12, 8), ((13, 128), 10, 1), ((13, 131), 10, 4), ((13, 134), 10, 5), ((13, 256), 6, 9), ((13, 259), 6, 0), ((13, 286), 6, 5), ((13, 289), 6, 4), ((13, 308), 6, 6), ((13, 355), 10, 10), ((13, 380), 7, 0), ((13, 383), 7, 2), ((13, 386), 7, 3), ((13, 393), 7, 6), ((13, 405), 9, 1), ((13, 416), 9, 4), ((13, 419), 9, 5), ((13, 431), 7, 5), ((13, 453), 7, 11), ((13, 456), 7, 7), ((13, 459), 7, 1), ((13, 462), 7, 4), ((13, 546), 7, 8), ((13, 559), 9, 8), ((13, 568), 12, 5), ((13, 580), 10, 12), ((13, 583), 12, 1), ((13, 586), 12, 2), ((13, 589), 10, 13), ((13, 592), 10, 11), ((13, 595), 12, 7), ((13, 601), 12, 0), ((13, 604), 12, 6), ((13, 606), 12, 4), ((13, 609), 12, 3), ((13, 620), 10, 14), ((15, 188), 9, 7), ((15, 209), 9, 3), ((15, 212), 9, 4), ((15, 218), 9, 1), ((15, 321), 10, 4)]
set_option maxRecDepth 20000 in
theorem xfT_t2_1_in : ∀ w ∈ xfT_t2_1.map xwF, w ∈ lw_tbl := fun w h => xin_t2 w (x_sub (big := tables_1_2) [170, 75, 73, 126, 211, 215, 218, 26, 13, 20, 18, 22, 224, 55, 59, 61, 67, 157, 164, 166, 65, 76, 69, 57, 63, 71, 173, 120, 228, 112, 114, 230, 226, 124, 110, 122, 118, 116, 232, 171, 161, 163, 156, 216] rfl w h)
def xfT_t3_0 : List ((Nat × Nat) × Nat × Nat) := [((5, 9), 5, 5), ((5, 15), 5, 9), ((5, 18), 5, 12), ((5, 22), 5, 0), ((5, 25), 5, 1), ((5, 29), 5, 2), ((5, 33), 5, 3), ((5, 37), 5, 8), ((5, 44), 5, 10), ((5, 47), 5, 6), ((5, 50), 5, 7), ((5, 76), 5, 4), ((5, 115), 5, 11), ((5, 136), 5, 13), ((13, 12), 13, 2), ((13, 21), 13, 5), ((13, 28), 13, 6), ((13, 35), 13, 7), ((13, 39), 13, 8), ((13, 43), 13, 11), ((13, 47), 13, 13), ((13, 50), 13, 14), ((13, 53), 13, 16), ((13, 56), 13, 18), ((13, 60), 13, 0), ((13, 63), 13, 1), ((13, 72), 13, 3), ((13, 81), 13, 4), ((13, 85), 13, 12), ((13, 88), 13, 10), ((13, 109), 13, 15), ((13, 115), 13, 9), ((13, 146), 13, 19), ((13, 238), 13, 17), ((15, 11), 15, 2), ((15, 17), 15, 3), ((15, 21), 15, 4), ((15, 25), 15, 6), ((15, 42), 15, 0), ((15, 49), 15, 1), ((15, 63), 15, 5), ((15, 84), 5, 3), ((15, 162), 13, 0), ((15, 165), 13, 8), ((15, 184), 13, 3), ((15, 224), 13, 2), ((15, 242), 15, 7), ((15, 275), 5, 4), ((15, 278), 5, 5), ((15, 281), 5, 6), ((15, 284), 5, 7), ((15, 287), 5, 8), ((15, 290), 5, 12), ((15, 293), 5, 13), ((15, 317), 13, 4)]
set_option maxRecDepth 20000 in
theorem xfT_t3_0_in : ∀ w ∈ xfT_t3_0.map xwF, w ∈ lw_tbl := fun w h => xin_t3 w (x_sub (big := tables_1_3) [113, 121, 124, 106, 107, 108, 109, 119, 122, 115, 117, 111, 123, 126, 27, 33, 34, 35, 36, 40, 42, 43, 45, 47, 24, 26, 29, 31, 41, 39, 44, 38, 48, 46, 159, 160, 161, 163, 157, 158, 162, 110, 25, 37, 30, 28, 164, 112, 114, 116, 118, 120, 125, 127, 32] rfl w h)
def xfT_t4_0 : List ((Nat × Nat) × Nat × Nat) := [((5, 71), 8, 2), ((5, 79), 8, 3), ((5, 82), 8, 4), ((5, 85), 8, 5), ((5, 88), 8, 6), ((5, 91), 8, 14), ((5, 92), 8, 15), ((5, 93), 8, 16), ((5, 94), 8, 12), ((5, 97), 8, 17), ((5, 124), 8, 7), ((5, 139), 8, 19), ((8, 9), 8, 18), ((8, 15), 8, 19), ((8, 19), 8, 2), ((8, 23), 8, 3), ((8, 26), 8, 4), ((8, 29), 8, 5), ((8, 32), 8, 6), ((8, 35), 8, 7), ((8, 38), 8, 8), ((8, 41), 8, 9), ((8, 44), 8, 10), ((8, 47), 8, 11), ((8, 50), 8, 12), ((8, 53), 8, 13), ((8, 56), 8, 14), ((8, 59), 8, 15), ((8, 62), 8, 16), ((8, 65), 8, 17), ((12, 45), 8, 2), ((12, 50), 8, 5), ((12, 52), 8, 16), ((13, 181), 8, 2), ((13, 189), 8, 7), ((13, 192), 8, 10), ((13, 336), 8, 3), ((13, 339), 8, 4), ((13, 342), 8, 5), ((13, 343), 8, 6), ((13, 346), 8, 17), ((13, 365), 8, 12), ((13, 370), 8, 8), ((13, 404), 8, 9), ((13, 409), 8, 18), ((13, 422), 8, 11), ((13, 423), 8, 13), ((13, 531), 8, 19), ((13, 550), 8, 14), ((13, 553), 8, 15), ((13, 556), 8, 16), ((14, 63), 8, 2), ((14, 66), 8, 3), ((14, 115), 8, 0), ((14, 121), 8, 1), ((15, 260), 8, 2), ((15, 263), 8, 3), ((15, 266), 8, 4), ((15, 269), 8, 5), ((15, 272), 8, 0)]
set_option maxRecDepth 20000 in
theorem xfT_t4_0_in : ∀ w ∈ xfT_t4_0.map xwF, w ∈ lw_tbl := fun w h => xin_t4 w (x_sub (big := tables_1_4) [32, 37, 41, 46, 50, 69, 72, 76, 64, 79, 54, 84, 81, 83, 29, 35, 40, 44, 49, 52, 55, 57, 59, 61, 63, 66, 68, 71, 75, 78, 30, 45, 74, 33, 53, 60, 38, 42, 47, 51, 80, 65, 56, 58, 82, 62, 67, 85, 70, 73, 77, 31, 36, 26, 28, 34, 39, 43, 48, 27] rfl w h)
def xfT_t10_0 : List ((Nat × Nat) × Nat × Nat) := [((16, 7), 16, 4), ((16, 13), 16, 6), ((16, 17), 16, 7), ((16, 20), 16, 8), ((16, 23), 16, 9), ((16, 26), 16, 10), ((16, 29), 16, 11), ((16, 32), 16, 12), ((16, 35), 16, 13), ((16, 38), 16, 14), ((16, 41), 16, 15), ((16, 45), 16, 16), ((16, 49), 16, 17), ((16, 53), 16, 18), ((16, 56), 16, 19), ((16, 59), 16, 23), ((16, 62), 16, 29), ((16, 65), 16, 30), ((16, 68), 16, 31), ((16, 71), 16, 32), ((16, 75), 16, 36), ((16, 78), 16, 37), ((16, 81), 16, 38), ((16, 84), 16, 39), ((16, 87), 16, 40), ((16, 90), 16, 41), ((16, 93), 16, 42), ((16, 96), 16, 43), ((16, 99), 16, 44), ((16, 102), 16, 45), ((16, 105), 16, 46), ((16, 108), 16, 47), ((16, 111), 16, 49), ((16, 114), 16, 50), ((16, 117), 16, 51), ((16, 120), 16, 52), ((16, 123), 16, 53), ((16, 126), 16, 54), ((16, 129), 16, 55), ((16, 132), 16, 56), ((16, 135), 16, 57), ((16, 138), 16, 58), ((16, 141), 16, 59), ((16, 144), 16, 60), ((16, 147), 16, 61), ((16, 150), 16, 62), ((16, 154), 16, 63), ((16, 157), 16, 64), ((16, 160), 16, 65), ((16, 164), 16, 66), ((16, 167), 16, 67), ((16, 170), 16, 68), ((16, 173), 16, 69), ((16, 176), 16, 70), ((16, 179), 16, 71), ((16, 182), 16, 72), ((16, 185), 16, 73), ((16, 188), 16, 74), ((16, 191), 16, 75), ((16, 194), 16, 76)]
set_option maxRecDepth 20000 in
theorem xfT_t10_0_in : ∀ w ∈ xfT_t10_0.map xwF, w ∈ lw_tbl := fun w h => xin_t10 w (x_sub (big := tables_1_10) [119, 121, 122, 123, 124, 125, 126, 127, 128, 129, 130, 131, 132, 133, 134, 138, 144, 145, 146, 147, 151, 152, 153, 154, 155, 156, 157, 158, 159, 160, 161, 162, 164, 165, 166, 167, 168, 169, 170, 171, 172, 173, 174, 175, 176, 177, 178, 179, 180, 181, 182, 183, 184, 185, 186, 187, 188, 189, 190, 191] rfl w h)
def xfT_t10_1 : List ((Nat × Nat) × Nat × Nat) := [((16, 197), 16, 77), ((16, 200), 16, 78), ((16, 203), 16, 79), ((16, 206), 16, 80), ((16, 209), 16, 81), ((16, 212), 16, 82), ((16, 215), 16, 83), ((16, 218), 16, 84), ((16, 221), 16, 85), ((16, 224), 16, 86), ((16, 227), 16, 87), ((16, 230), 16, 88), ((16, 233), 16, 89), ((16, 236), 16, 90), ((16, 239), 16, 91), ((16, 242), 16, 92), ((16, 245), 16, 93), ((16, 248), 16, 94), ((16, 251), 16, 95), ((16, 254), 16, 96), ((16, 257), 16, 97), ((16, 260), 16, 98), ((16, 263), 16, 99), ((16, 266), 16, 100), ((16, 269), 16, 101), ((16, 272), 16, 102), ((16, 275), 16, 103), ((16, 278), 16, 104), ((16, 281), 16, 105), ((16, 284), 16, 106), ((16, 287), 16, 107), ((16, 290), 16, 108), ((16, 293), 16, 109), ((16, 296), 16, 110), ((16, 299), 16, 111), ((16, 302), 16, 112), ((16, 305), 16, 113), ((16, 308), 16, 114), ((16, 311), 16, 115), ((16, 314), 16, 116), ((16, 318), 16, 117), ((16, 321), 16, 118), ((16, 324), 16, 119), ((16, 327), 16, 121), ((16, 330), 16, 124), ((16, 393), 16, 0), ((16, 400), 16, 24), ((16, 403), 16, 28), ((16, 411), 16, 20), ((16, 414), 16, 22), ((16, 421), 16, 2), ((16, 424), 16, 21), ((16, 431), 16, 1), ((16, 434), 16, 25), ((16, 437), 16, 26), ((16, 440), 16, 27), ((16, 458), 16, 35), ((16, 461), 16, 33), ((16, 464), 16, 34), ((16, 471), 16, 3)]
set_option maxRecDepth 20000 in
theorem xfT_t10_1_in : ∀ w ∈ xfT_t10_1.map xwF, w ∈ lw_tbl := fun w h => xin_t10 w (x_sub (big := tables_1_10) [192, 193, 194, 195, 196, 197, 198, 199, 200, 201, 202, 203, 204, 205, 206, 207, 208, 209, 210, 211, 212, 213, 214, 215, 216, 217, 218, 219, 220, 221, 222, 223, 224, 225, 226, 227, 228, 229, 230, 231, 232, 233, 234, 236, 239, 115, 139, 143, 135, 137, 117, 136, 116, 140, 141, 142, 150, 148, 149, 118] rfl w h)
def xfT_t10_2 : List ((Nat × Nat) × Nat × Nat) := [((16, 511), 16, 48), ((16, 570), 16, 122), ((16, 595), 16, 123), ((16, 598), 16, 120), ((16, 791), 16, 5)]
set_option maxRecDepth 20000 in
theorem xfT_t10_2_in : ∀ w ∈ xfT_t10_2.map xwF, w ∈ lw_tbl := fun w h => xin_t10 w (x_sub (big := tables_1_10) [163, 237, 238, 235, 120] rfl w h)
def xfT_t11_0 : List ((Nat × Nat) × Nat × Nat) := [((16, 333), 16, 125), ((16, 336), 16, 126), ((16, 339), 16, 127), ((16, 342), 16, 128), ((16, 345), 16, 129), ((16, 348), 16, 130), ((16, 351), 16, 131), ((16, 354), 16, 132), ((16, 357), 16, 133), ((16, 360), 16, 134), ((16, 363), 16, 135), ((16, 366), 16, 136), ((16, 369), 16, 137), ((16, 372), 16, 138), ((16, 375), 16, 139), ((16, 378), 16, 142), ((16, 381), 16, 143), ((16, 384), 16, 145), ((16, 613), 16, 146), ((16, 775), 16, 141), ((16, 815), 16, 140), ((16, 863), 16, 144)]
set_option maxRecDepth 20000 in
theorem xfT_t11_0_in : ∀ w ∈ xfT_t11_0.map xwF, w ∈ lw_tbl := fun w h => xin_t11 w (x_sub (big := tables_1_11) [0, 1, 2, 3, 4, 5, 6, 7, 8, 9, 10, 11, 12, 13, 14, 17, 18, 20, 21, 16, 15, 19] rfl w h)
def xfT : List ((Nat × Nat) × Nat × Nat) := xfT_t1_0 ++ (xfT_t1_1 ++ (xfT_t2_0 ++ (xfT_t2_1 ++ (xfT_t3_0 ++ (xfT_t4_0 ++ (xfT_t10_0 ++ (xfT_t10_1 ++ (xfT_t10_2 ++ (xfT_t11_0)))))))))
theorem xfT_in : ∀ w ∈ xfT.map xwF, w ∈ lw_tbl := by
  unfold xfT
  (try simp only [List.map_append])
  exact x_app xfT_t1_0_in (x_app xfT_t1_1_in (x_app xfT_t2_0_in (x_app xfT_t2_1_in (x_app xfT_t3_0_in (x_app xfT_t4_0_in (x_app xfT_t10_0_in (x_app xfT_t10_1_in (x_app xfT_t10_2_in (xfT_t11_0_in)))))))))
def xmT_t1_0 : List ((Nat × Nat) × Nat) := [((3, 1), 401), ((13, 11), 40), ((14, 30), 9), ((14, 38), 393), ((15, 28), 397), ((15, 34), 396), ((15, 39), 195), ((15, 53), 140), ((17, 109), 220), ((21, 1), 402)]
set_option maxRecDepth 20000 in
theorem xmT_t1_0_in : ∀ w ∈ xmT_t1_0.map xwM, w ∈ lw_tbl := fun w h => xin_t1 w (x_sub (big := tables_1_1) [66, 195, 63, 90, 49, 52, 57, 189, 39, 69] rfl w h)
def xmT_t2_0 : List ((Nat × Nat) × Nat) := [((13, 34), 9), ((13, 69), 68), ((13, 78), 84)]
set_option maxRecDepth 20000 in
theorem xmT_t2_0_in : ∀ w ∈ xmT_t2_0.map xwM, w ∈ lw_tbl := fun w h => xin_t2 w (x_sub (big := tables_1_2) [147, 150, 205] rfl w h)
def xmT_t3_0 : List ((Nat × Nat) × Nat) := [((3, 118), 403), ((3, 123), 4), ((3, 144), 5), ((14, 48), 10), ((14, 59), 13), ((14, 127), 6), ((14, 150), 200), ((15, 56), 188), ((15, 60), 26), ((15, 109), 217), ((15, 324), 192), ((15, 328), 191), ((15, 331), 196), ((15, 335), 202), ((15, 338), 184), ((17, 137), 237), ((23, 105), 406)]
set_option maxRecDepth 20000 in
theorem xmT_t3_0_in : ∀ w ∈ xmT_t3_0.map xwM, w ∈ lw_tbl := fun w h => xin_t3 w (x_sub (big := tables_1_3) [203, 209, 230, 195, 226, 199, 97, 90, 102, 187, 191, 214, 218, 222, 237, 182, 206] rfl w h)
def xmT_t4_0 : List ((Nat × Nat) × Nat) := [((3, 66), 389), ((3, 69), 7), ((3, 73), 408), ((3, 79), 396), ((3, 129), 8), ((3, 131), 0), ((3, 135), 12), ((8, 74), 397), ((8, 80), 396), ((13, 332), 185), ((13, 347), 199), ((13, 351), 144), ((13, 358), 60), ((13, 362), 132), ((13, 465), 178), ((13, 542), 155), ((14, 55), 14), ((14, 69), 184), ((14, 73), 198), ((14, 89), 197), ((14, 111), 2), ((14, 130), 1), ((15, 342), 154), ((18, 300), 391), ((18, 304), 397), ((25, 194), 396), ((25, 201), 407)]
set_option maxRecDepth 20000 in
theorem xmT_t4_0_in : ∀ w ∈ xmT_t4_0.map xwM, w ∈ lw_tbl := fun w h => xin_t4 w (x_sub (big := tables_1_4) [175, 163, 167, 210, 159, 155, 220, 135, 136, 17, 142, 13, 131, 138, 5, 9, 127, 146, 147, 212, 151, 216, 1, 202, 208, 170, 172] rfl w h)
def xmT_t5_0 : List ((Nat × Nat) × Nat) := [((0, 54), 388), ((0, 1062), 405), ((0, 1065), 404), ((3, 198), 11), ((18, 339), 387), ((18, 343), 386)]
set_option maxRecDepth 20000 in
theorem xmT_t5_0_in : ∀ w ∈ xmT_t5_0.map xwM, w ∈ lw_tbl := fun w h => xin_t5 w (x_sub (big := tables_1_5) [220, 112, 158, 26, 223, 226] rfl w h)
def xmT_t6_0 : List ((Nat × Nat) × Nat) := [((6, 51), 114), ((6, 75), 44), ((6, 79), 105), ((6, 86), 45), ((9, 37), 66), ((9, 40), 67), ((9, 44), 63), ((9, 48), 396), ((9, 54), 75), ((9, 57), 69), ((9, 70), 397), ((9, 76), 70), ((11, 45), 110), ((11, 55), 396), ((11, 61), 390), ((12, 38), 119), ((13, 121), 14), ((13, 140), 398), ((13, 193), 157), ((13, 210), 2), ((13, 248), 117), ((13, 251), 188), ((13, 293), 396), ((13, 305), 62), ((13, 311), 75), ((13, 314), 52), ((13, 320), 200), ((13, 323), 165), ((13, 326), 69), ((13, 328), 32), ((13, 397), 397), ((13, 425), 156), ((13, 428), 135), ((13, 438), 166), ((13, 444), 142), ((13, 447), 73), ((13, 451), 122), ((13, 468), 177), ((13, 471), 176), ((13, 474), 170), ((13, 477), 168), ((13, 480), 134), ((13, 484), 172), ((13, 499), 141), ((13, 502), 162), ((13, 506), 139), ((13, 509), 74), ((13, 512), 65), ((13, 515), 34), ((13, 547), 115), ((14, 93), 189), ((14, 97), 59)]
set_option maxRecDepth 20000 in
theorem xmT_t6_0_in : ∀ w ∈ xmT_t6_0.map xwM, w ∈ lw_tbl := fun w h => xin_t6 w (x_sub (big := tables_1_6) [108, 104, 112, 237, 225, 73, 77, 212, 213, 134, 224, 229, 116, 120, 121, 85, 67, 182, 200, 68, 154, 153, 219, 130, 69, 149, 140, 136, 88, 100, 218, 145, 158, 141, 178, 92, 96, 162, 174, 188, 192, 196, 214, 166, 170, 204, 208, 220, 233, 81, 59, 63] rfl w h)
def xmT_t7_0 : List ((Nat × Nat) × Nat) := [((6, 55), 111), ((6, 89), 107), ((6, 93), 35), ((6, 99), 112), ((6, 101), 106), ((6, 103), 397), ((7, 41), 393), ((7, 53), 58), ((7, 57), 397), ((7, 64), 56), ((7, 68), 398), ((10, 60), 93), ((10, 76), 19), ((10, 92), 81), ((10, 95), 394), ((10, 101), 90), ((10, 104), 86), ((10, 112), 100), ((10, 124), 104), ((10, 127), 396), ((10, 132), 101), ((10, 135), 78), ((10, 149), 77), ((10, 152), 88), ((10, 156), 92), ((13, 137), 47), ((13, 149), 171), ((13, 153), 128), ((13, 156), 174), ((13, 159), 127), ((13, 162), 161), ((13, 166), 121), ((13, 169), 131), ((13, 172), 123), ((13, 244), 54), ((13, 272), 72), ((13, 282), 87), ((13, 367), 182), ((13, 373), 150), ((13, 376), 160), ((13, 389), 153), ((13, 400), 152), ((13, 406), 63), ((13, 434), 57), ((13, 441), 125), ((13, 487), 169), ((13, 490), 175), ((13, 493), 180), ((13, 496), 173), ((13, 516), 159), ((13, 519), 143), ((13, 522), 179), ((13, 525), 392), ((13, 532), 53), ((13, 536), 33), ((13, 539), 138), ((13, 562), 67), ((13, 565), 120), ((13, 570), 116), ((13, 573), 76)]
set_option maxRecDepth 20000 in
theorem xmT_t7_0_in : ∀ w ∈ xmT_t7_0.map xwM, w ∈ lw_tbl := fun w h => xin_t7 w (x_sub (big := tables_1_7) [52, 5, 9, 1, 13, 17, 125, 154, 162, 158, 161, 214, 172, 218, 222, 176, 184, 188, 81, 192, 193, 180, 69, 73, 77, 89, 105, 109, 117, 126, 130, 147, 197, 201, 121, 57, 65, 97, 26, 134, 138, 142, 146, 151, 113, 18, 30, 85, 93, 34, 38, 44, 42, 48, 61, 22, 205, 206, 164, 210] rfl w h)
def xmT_t7_1 : List ((Nat × Nat) × Nat) := [((13, 598), 119), ((13, 611), 89), ((15, 346), 164), ((18, 13), 395)]
set_option maxRecDepth 20000 in
theorem xmT_t7_1_in : ∀ w ∈ xmT_t7_1.map xwM, w ∈ lw_tbl := fun w h => xin_t7 w (x_sub (big := tables_1_7) [163, 168, 101, 225] rfl w h)
def xmT_t8_0 : List ((Nat × Nat) × Nat) := [((5, 40), 27), ((5, 53), 28), ((5, 58), 19), ((5, 62), 22), ((5, 65), 185), ((5, 100), 199), ((5, 104), 29), ((5, 111), 200), ((5, 118), 30), ((5, 121), 24), ((5, 127), 25), ((5, 131), 397), ((5, 148), 20), ((5, 151), 194), ((5, 154), 18), ((6, 109), 49), ((6, 112), 113), ((10, 64), 82), ((10, 80), 95), ((10, 84), 103), ((10, 88), 96), ((10, 108), 91), ((10, 115), 85), ((10, 118), 102), ((10, 121), 83), ((10, 142), 99), ((10, 146), 98), ((13, 175), 130), ((13, 178), 149), ((13, 186), 158), ((13, 206), 6), ((13, 214), 3), ((13, 220), 48), ((13, 223), 151), ((13, 577), 94), ((13, 614), 71), ((13, 617), 97), ((13, 623), 393), ((14, 144), 194), ((15, 70), 233), ((15, 76), 205), ((15, 303), 14), ((15, 349), 23), ((15, 355), 2), ((15, 361), 201), ((15, 364), 167), ((15, 367), 183), ((15, 370), 31), ((17, 7), 213), ((17, 15), 211), ((17, 21), 204), ((17, 103), 385), ((17, 180), 231), ((17, 214), 208)]
set_option maxRecDepth 20000 in
theorem xmT_t8_0_in : ∀ w ∈ xmT_t8_0.map xwM, w ∈ lw_tbl := fun w h => xin_t8 w (x_sub (big := tables_1_8) [95, 87, 99, 91, 112, 113, 114, 118, 125, 83, 121, 119, 100, 104, 108, 143, 147, 14, 22, 38, 46, 26, 30, 34, 42, 62, 66, 50, 71, 75, 155, 157, 139, 151, 18, 54, 58, 70, 134, 210, 235, 177, 79, 129, 130, 135, 161, 165, 185, 218, 231, 178, 169, 173] rfl w h)
def xmT_t9_0 : List ((Nat × Nat) × Nat) := [((4, 23), 390), ((4, 35), 392), ((6, 120), 396), ((6, 125), 43), ((6, 129), 38), ((6, 132), 41), ((6, 139), 39), ((6, 142), 51), ((6, 146), 109), ((6, 150), 46), ((6, 153), 42), ((13, 197), 36), ((13, 217), 126), ((13, 226), 194), ((13, 229), 37), ((13, 232), 145), ((13, 235), 146), ((13, 254), 64), ((13, 255), 77), ((13, 625), 147), ((14, 133), 193), ((14, 137), 185), ((15, 80), 221), ((15, 91), 15), ((15, 95), 16), ((15, 99), 21), ((15, 102), 22), ((15, 114), 222), ((15, 142), 193), ((15, 145), 190), ((15, 148), 187), ((15, 151), 186), ((15, 155), 219), ((15, 168), 133), ((15, 171), 136), ((15, 174), 129), ((15, 177), 148), ((15, 181), 124), ((15, 193), 163), ((15, 196), 147), ((15, 199), 182), ((15, 203), 137), ((17, 27), 215), ((17, 31), 234), ((17, 34), 210), ((17, 38), 232), ((17, 41), 230), ((17, 45), 227), ((17, 49), 224), ((17, 53), 209), ((17, 57), 238), ((17, 60), 236), ((17, 63), 228), ((17, 67), 225), ((17, 70), 216), ((17, 73), 235)]
set_option maxRecDepth 20000 in
theorem xmT_t9_0_in : ∀ w ∈ xmT_t9_0.map xwM, w ∈ lw_tbl := fun w h => xin_t9 w (x_sub (big := tables_1_9) [11, 16, 116, 149, 153, 176, 157, 165, 168, 172, 161, 110, 118, 122, 145, 180, 189, 184, 188, 204, 78, 83, 4, 7, 12, 18, 29, 45, 70, 74, 79, 84, 95, 106, 130, 141, 200, 208, 212, 230, 231, 232, 25, 33, 41, 51, 59, 66, 91, 102, 126, 137, 196, 219, 226, 239] rfl w h)
def xmT_t10_0 : List ((Nat × Nat) × Nat) := [((15, 206), 181), ((15, 215), 67), ((15, 221), 63), ((15, 228), 50), ((15, 232), 226), ((15, 236), 79), ((15, 245), 80), ((15, 252), 6), ((15, 302), 19), ((16, 389), 274), ((16, 455), 241), ((17, 76), 212), ((17, 79), 214), ((17, 82), 223), ((17, 85), 239), ((17, 88), 229), ((17, 91), 207), ((17, 94), 203), ((17, 97), 218), ((17, 100), 206), ((17, 114), 297)]
set_option maxRecDepth 20000 in
theorem xmT_t10_0_in : ∀ w ∈ xmT_t10_0.map xwM, w ∈ lw_tbl := fun w h => xin_t10 w (x_sub (big := tables_1_10) [3, 14, 15, 23, 34, 38, 49, 60, 84, 104, 111, 10, 19, 30, 45, 56, 65, 72, 80, 88, 94] rfl w h)
def xmT_t12_0 : List ((Nat × Nat) × Nat) := [((16, 417), 262), ((16, 427), 247), ((16, 443), 284), ((16, 446), 273), ((16, 450), 356), ((16, 467), 323), ((16, 474), 365), ((16, 492), 280), ((16, 496), 261), ((16, 499), 367), ((16, 502), 317), ((16, 505), 360), ((16, 508), 268), ((16, 560), 366), ((16, 622), 330), ((16, 625), 287), ((16, 634), 359), ((16, 638), 303), ((16, 641), 384), ((16, 644), 275), ((16, 647), 381), ((16, 657), 363), ((16, 672), 244), ((16, 691), 315), ((16, 727), 318), ((16, 772), 349), ((16, 778), 301), ((16, 782), 370), ((16, 785), 271), ((16, 794), 240), ((16, 799), 294), ((16, 811), 300), ((16, 820), 283), ((16, 823), 290), ((17, 118), 278), ((17, 119), 373), ((17, 126), 276), ((17, 130), 248), ((17, 133), 288), ((17, 136), 352)]
set_option maxRecDepth 20000 in
theorem xmT_t12_0_in : ∀ w ∈ xmT_t12_0.map xwM, w ∈ lw_tbl := fun w h => xin_t12 w (x_sub (big := tables_1_12) [148, 140, 144, 152, 136, 169, 177, 189, 192, 185, 223, 231, 227, 181, 200, 204, 208, 196, 219, 235, 125, 215, 239, 130, 211, 113, 117, 121, 109, 85, 94, 102, 165, 173, 81, 77, 89, 97, 156, 160] rfl w h)
def xmT_t13_0 : List ((Nat × Nat) × Nat) := [((16, 477), 350), ((16, 480), 351), ((16, 483), 348), ((16, 486), 249), ((16, 489), 253), ((16, 514), 314), ((16, 521), 322), ((16, 524), 372), ((16, 527), 312), ((16, 530), 296), ((16, 533), 282), ((16, 536), 257), ((16, 539), 347), ((16, 553), 316), ((16, 563), 260), ((16, 567), 343), ((16, 573), 281), ((16, 576), 375), ((16, 579), 353), ((16, 582), 371), ((16, 585), 307), ((16, 589), 286), ((16, 592), 263), ((16, 600), 332), ((16, 603), 298), ((16, 606), 358), ((16, 609), 333), ((16, 616), 334), ((16, 628), 380), ((16, 631), 319), ((16, 651), 339), ((16, 654), 258), ((16, 660), 251), ((16, 663), 306), ((16, 666), 341), ((16, 669), 254), ((16, 676), 304), ((16, 679), 355), ((16, 683), 243), ((16, 686), 354), ((16, 694), 382), ((16, 697), 246), ((16, 700), 245), ((16, 703), 327), ((16, 706), 338), ((16, 709), 340), ((16, 712), 259), ((16, 715), 335), ((16, 718), 383), ((16, 721), 374), ((16, 724), 342), ((16, 730), 265), ((16, 733), 299), ((16, 737), 379), ((16, 740), 321), ((16, 759), 295), ((16, 765), 313), ((16, 768), 293), ((16, 788), 337)]
set_option maxRecDepth 20000 in
theorem xmT_t13_0_in : ∀ w ∈ xmT_t13_0.map xwM, w ∈ lw_tbl := fun w h => xin_t13 w (x_sub (big := tables_1_13) [179, 195, 199, 212, 224, 14, 7, 3, 10, 18, 22, 26, 163, 175, 79, 75, 83, 135, 87, 91, 131, 139, 115, 111, 119, 123, 127, 151, 38, 42, 54, 66, 30, 183, 187, 191, 34, 46, 62, 50, 58, 103, 167, 171, 107, 95, 143, 147, 155, 159, 71, 99, 228, 232, 236, 204, 216, 220, 208] rfl w h)
def xmT_t14_0 : List ((Nat × Nat) × Nat) := [((16, 517), 331), ((16, 544), 346), ((16, 547), 305), ((16, 550), 344), ((16, 556), 285), ((16, 619), 376), ((16, 743), 291), ((16, 746), 369), ((16, 749), 368), ((16, 752), 250), ((16, 755), 269), ((16, 762), 377), ((16, 833), 302), ((16, 840), 310), ((16, 843), 272), ((16, 846), 267), ((16, 850), 345), ((16, 853), 255), ((16, 860), 309), ((17, 140), 362), ((17, 144), 270), ((17, 147), 336), ((17, 153), 328), ((17, 156), 324), ((17, 160), 311), ((17, 164), 266), ((17, 167), 364), ((17, 170), 361), ((17, 173), 325), ((17, 176), 320), ((17, 179), 289), ((17, 183), 329), ((17, 186), 357), ((17, 189), 277), ((17, 192), 279), ((17, 195), 308), ((17, 198), 378), ((17, 201), 326), ((17, 204), 256), ((17, 207), 242), ((17, 210), 292), ((17, 213), 252), ((17, 217), 264)]
set_option maxRecDepth 20000 in
theorem xmT_t14_0_in : ∀ w ∈ xmT_t14_0.map xwM, w ∈ lw_tbl := fun w h => xin_t14 w (x_sub (big := tables_1_14) [89, 93, 97, 101, 105, 20, 24, 0, 4, 12, 8, 16, 36, 56, 68, 72, 85, 113, 147, 28, 32, 42, 47, 51, 60, 64, 77, 81, 109, 118, 122, 126, 130, 134, 138, 143, 151, 155, 159, 163, 167, 171, 175] rfl w h)
def xmT : List ((Nat × Nat) × Nat) := xmT_t1_0 ++ (xmT_t2_0 ++ (xmT_t3_0 ++ (xmT_t4_0 ++ (xmT_t5_0 ++ (xmT_t6_0 ++ (xmT_t7_0 ++ (xmT_t7_1 ++ (xmT_t8_0 ++ (xmT_t9_0 ++ (xmT_t10_0 ++ (xmT_t12_0 ++ (xmT_t13_0 ++ (xmT_t14_0)))))))))))))
theorem xmT_in : ∀ w ∈ xmT.map xwM, w ∈ lw_tbl := by
  unfold xmT
  (try simp only [List.map_append])
  exact x_app xmT_t1_0_in (x_app xmT_t2_0_in (x_app xmT_t3_0_in (x_app xmT_t4_0_in (x_app xmT_t5_0_in (x_app xmT_t6_0_in (x_app xmT_t7_0_in (x_app xmT_t7_1_in (x_app xmT_t8_0_in (x_app xmT_t9_0_in (x_app xmT_t10_0_in (x_app xmT_t12_0_in (x_app xmT_t13_0_in (xmT_t14_0_in)))))))))))))
def xnT_t1_0 : List ((Nat × Nat) × Nat) := [((6, 37), 108), ((15, 48), 17)]
set_option maxRecDepth 20000 in
theorem xnT_t1_0_in : ∀ w ∈ xnT_t1_0.map xwN, w ∈ lw_tbl := fun w h => xin_t1 w (x_sub (big := tables_1_1) [202, 165] rfl w h)
def xnT_t2_0 : List ((Nat × Nat) × Nat) := [((13, 20), 55), ((13, 27), 118)]
set_option maxRecDepth 20000 in
theorem xnT_t2_0_in : ∀ w ∈ xnT_t2_0.map xwN, w ∈ lw_tbl := fun w h => xin_t2 w (x_sub (big := tables_1_2) [50, 105] rfl w h)
def xnT_t4_0 : List ((Nat × Nat) × Nat) := [((14, 54), 61)]
set_option maxRecDepth 20000 in
theorem xnT_t4_0_in : ∀ w ∈ xnT_t4_0.map xwN, w ∈ lw_tbl := fun w h => xin_t4 w (x_sub (big := tables_1_4) [22] rfl w h)
def xnT : List ((Nat × Nat) × Nat) := xnT_t1_0 ++ (xnT_t2_0 ++ (xnT_t4_0))
theorem xnT_in : ∀ w ∈ xnT.map xwN, w ∈ lw_tbl := by
  unfold xnT
  (try simp only [List.map_append])
  exact x_app xnT_t1_0_in (x_app xnT_t2_0_in (xnT_t4_0_in))
def xkT_t1_0 : List ((Nat × Nat) × Nat) := [((6, 9), 11), ((13, 9), 6), ((14, 28), 3), ((15, 9), 13), ((15, 15), 5), ((15, 37), 14), ((15, 46), 4), ((17, 8), 15)]
set_option maxRecDepth 20000 in
theorem xkT_t1_0_in : ∀ w ∈ xkT_t1_0.map xwK, w ∈ lw_tbl := fun w h => xin_t1 w (x_sub (big := tables_1_1) [199, 193, 61, 45, 47, 55, 163, 37] rfl w h)
def xkT_t2_0 : List ((Nat × Nat) × Nat) := [((13, 18), 7), ((13, 25), 12), ((13, 32), 3), ((13, 67), 9), ((13, 76), 10)]
set_option maxRecDepth 20000 in
theorem xkT_t2_0_in : ∀ w ∈ xkT_t2_0.map xwK, w ∈ lw_tbl := fun w h => xin_t2 w (x_sub (big := tables_1_2) [48, 103, 146, 148, 203] rfl w h)
def xkT_t3_0 : List ((Nat × Nat) × Nat) := [((14, 52), 8)]
set_option maxRecDepth 20000 in
theorem xkT_t3_0_in : ∀ w ∈ xkT_t3_0.map xwK, w ∈ lw_tbl := fun w h => xin_t3 w (x_sub (big := tables_1_3) [213] rfl w h)
def xkT_t8_0 : List ((Nat × Nat) × Nat) := [((13, 182), 8)]
set_option maxRecDepth 20000 in
theorem xkT_t8_0_in : ∀ w ∈ xkT_t8_0.map xwK, w ∈ lw_tbl := fun w h => xin_t8 w (x_sub (big := tables_1_8) [156] rfl w h)
def xkT_t10_0 : List ((Nat × Nat) × Nat) := [((15, 258), 8), ((17, 112), 16)]
set_option maxRecDepth 20000 in
theorem xkT_t10_0_in : ∀ w ∈ xkT_t10_0.map xwK, w ∈ lw_tbl := fun w h => xin_t10 w (x_sub (big := tables_1_10) [61, 92] rfl w h)
def xkT : List ((Nat × Nat) × Nat) := xkT_t1_0 ++ (xkT_t2_0 ++ (xkT_t3_0 ++ (xkT_t8_0 ++ (xkT_t10_0))))
theorem xkT_in : ∀ w ∈ xkT.map xwK, w ∈ lw_tbl := by
  unfold xkT
  (try simp only [List.map_append])
  exact x_app xkT_t1_0_in (x_app xkT_t2_0_in (x_app xkT_t3_0_in (x_app xkT_t8_0_in (xkT_t10_0_in))))
def xaT_t1_0 : List ((Nat × Nat) × Nat) := [((6, 9), 7), ((15, 9), 5), ((15, 15), 6)]
set_option maxRecDepth 20000 in
theorem xaT_t1_0_in : ∀ w ∈ xaT_t1_0.map xwA, w ∈ lw_tbl := fun w h => xin_t1 w (x_sub (big := tables_1_1) [199, 45, 47] rfl w h)
def xaT_t4_0 : List ((Nat × Nat) × Nat) := [((3, 7), 4), ((18, 2), 4)]
set_option maxRecDepth 20000 in
theorem xaT_t4_0_in : ∀ w ∈ xaT_t4_0.map xwA, w ∈ lw_tbl := fun w h => xin_t4 w (x_sub (big := tables_1_4) [211, 207] rfl w h)
def xaT : List ((Nat × Nat) × Nat) := xaT_t1_0 ++ (xaT_t4_0)
theorem xaT_in : ∀ w ∈ xaT.map xwA, w ∈ lw_tbl := by
  unfold xaT
  (try simp only [List.map_append])
  exact x_app xaT_t1_0_in (xaT_t4_0_in)
def xcT_t3_0 : List ((Nat × Nat) × Int32) := [((15, 113), 2147483647)]
set_option maxRecDepth 20000 in
theorem xcT_t3_0_in : ∀ w ∈ xcT_t3_0.map xwc, w ∈ lw_tbl := fun w h => xin_t3 w (x_sub (big := tables_1_3) [186] rfl w h)
def xcT_t4_0 : List ((Nat × Nat) × Int32) := [((25, 200), 2147483639)]
set_option maxRecDepth 20000 in
theorem xcT_t4_0_in : ∀ w ∈ xcT_t4_0.map xwc, w ∈ lw_tbl := fun w h => xin_t4 w (x_sub (big := tables_1_4) [171] rfl w h)
def xcT_t6_0 : List ((Nat × Nat) × Int32) := [((20, 265), 1431655765), ((20, 266), 858993459), ((20, 267), 252645135)]
set_option maxRecDepth 20000 in
theorem xcT_t6_0_in : ∀ w ∈ xcT_t6_0.map xwc, w ∈ lw_tbl := fun w h => xin_t6 w (x_sub (big := tables_1_6) [185, 186, 187] rfl w h)
def xcT_t7_0 : List ((Nat × Nat) × Int32) := [((7, 63), -2147483648)]
set_option maxRecDepth 20000 in
theorem xcT_t7_0_in : ∀ w ∈ xcT_t7_0.map xwc, w ∈ lw_tbl := fun w h => xin_t7 w (x_sub (big := tables_1_7) [157] rfl w h)
def xcT_t9_0 : List ((Nat × Nat) × Int32) := [((15, 108), 1000000), ((15, 125), 65536)]
set_option maxRecDepth 20000 in
theorem xcT_t9_0_in : ∀ w ∈ xcT_t9_0.map xwc, w ∈ lw_tbl := fun w h => xin_t9 w (x_sub (big := tables_1_9) [37, 55] rfl w h)
def xcT_t10_0 : List ((Nat × Nat) × Int32) := [((16, 44), 67968), ((16, 74), 392000), ((16, 153), 114688), ((16, 163), 98000), ((16, 317), 89600), ((16, 388), -2000000000)]
set_option maxRecDepth 20000 in
theorem xcT_t10_0_in : ∀ w ∈ xcT_t10_0.map xwc, w ∈ lw_tbl := fun w h => xin_t10 w (x_sub (big := tables_1_10) [98, 99, 100, 101, 102, 103] rfl w h)
def xcT_t12_0 : List ((Nat × Nat) × Int32) := [((16, 690), 540672)]
set_option maxRecDepth 20000 in
theorem xcT_t12_0_in : ∀ w ∈ xcT_t12_0.map xwc, w ∈ lw_tbl := fun w h => xin_t12 w (x_sub (big := tables_1_12) [129] rfl w h)
def xcT_t13_0 : List ((Nat × Nat) × Int32) := [((16, 637), -2147483647), ((16, 758), 542208)]
set_option maxRecDepth 20000 in
theorem xcT_t13_0_in : ∀ w ∈ xcT_t13_0.map xwc, w ∈ lw_tbl := fun w h => xin_t13 w (x_sub (big := tables_1_13) [70, 203] rfl w h)
def xcT : List ((Nat × Nat) × Int32) := xcT_t3_0 ++ (xcT_t4_0 ++ (xcT_t6_0 ++ (xcT_t7_0 ++ (xcT_t9_0 ++ (xcT_t10_0 ++ (xcT_t12_0 ++ (xcT_t13_0)))))))
theorem xcT_in : ∀ w ∈ xcT.map xwc, w ∈ lw_tbl := by
  unfold xcT
  (try simp only [List.map_append])
  exact x_app xcT_t3_0_in (x_app xcT_t4_0_in (x_app xcT_t6_0_in (x_app xcT_t7_0_in (x_app xcT_t9_0_in (x_app xcT_t10_0_in (x_app xcT_t12_0_in (xcT_t13_0_in)))))))
def xlT_t3_0 : List ((Nat × Nat) × Int64) := [((14, 104), 6364136223846793005), ((14, 106), 1442695040888963407), ((14, 148), 50)]
set_option maxRecDepth 20000 in
theorem xlT_t3_0_in : ∀ w ∈ xlT_t3_0.map xwl, w ∈ lw_tbl := fun w h => xin_t3 w (x_sub (big := tables_1_3) [94, 95, 96] rfl w h)
def xlT_t9_0 : List ((Nat × Nat) × Int64) := [((6, 116), 6364136223846793005), ((6, 118), 1442695040888963407), ((6, 123), 1048575)]
set_option maxRecDepth 20000 in
theorem xlT_t9_0_in : ∀ w ∈ xlT_t9_0.map xwl, w ∈ lw_tbl := fun w h => xin_t9 w (x_sub (big := tables_1_9) [114, 115, 117] rfl w h)
def xlT_t10_0 : List ((Nat × Nat) × Int64) := [((16, 407), 6364136223846793005), ((16, 409), 1442695040888963407), ((16, 453), 50)]
set_option maxRecDepth 20000 in
theorem xlT_t10_0_in : ∀ w ∈ xlT_t10_0.map xwl, w ∈ lw_tbl := fun w h => xin_t10 w (x_sub (big := tables_1_10) [108, 109, 110] rfl w h)
def xlT_t12_0 : List ((Nat × Nat) × Int64) := [((16, 396), 255), ((16, 398), -1), ((16, 797), 20), ((16, 803), 5), ((16, 805), 32), ((16, 807), 100), ((16, 809), 7), ((16, 818), 1000)]
set_option maxRecDepth 20000 in
theorem xlT_t12_0_in : ∀ w ∈ xlT_t12_0.map xwl, w ∈ lw_tbl := fun w h => xin_t12 w (x_sub (big := tables_1_12) [134, 135, 93, 106, 107, 108, 101, 164] rfl w h)
def xlT_t14_0 : List ((Nat × Nat) × Int64) := [((16, 542), 1048575), ((16, 827), 6), ((16, 829), 8), ((16, 831), 15), ((16, 836), 65535), ((16, 838), 2), ((16, 856), 127), ((16, 858), 4), ((17, 148), 4294967295)]
set_option maxRecDepth 20000 in
theorem xlT_t14_0_in : ∀ w ∈ xlT_t14_0.map xwl, w ∈ lw_tbl := fun w h => xin_t14 w (x_sub (big := tables_1_14) [76, 39, 40, 41, 46, 55, 117, 142, 179] rfl w h)
def xlT : List ((Nat × Nat) × Int64) := xlT_t3_0 ++ (xlT_t9_0 ++ (xlT_t10_0 ++ (xlT_t12_0 ++ (xlT_t14_0))))
theorem xlT_in : ∀ w ∈ xlT.map xwl, w ∈ lw_tbl := by
  unfold xlT
  (try simp only [List.map_append])
  exact x_app xlT_t3_0_in (x_app xlT_t9_0_in (x_app xlT_t10_0_in (x_app xlT_t12_0_in (xlT_t14_0_in))))
def xSt_t1_0 : List Nat := [393, 396, 397]
set_option maxRecDepth 20000 in
theorem xSt_t1_0_in : ∀ w ∈ xSt_t1_0.map xwS, w ∈ lw_tbl := fun w h => xin_t1 w (x_sub (big := tables_1_1) [91, 53, 50] rfl w h)
def xSt_t3_0 : List Nat := [403, 406]
set_option maxRecDepth 20000 in
theorem xSt_t3_0_in : ∀ w ∈ xSt_t3_0.map xwS, w ∈ lw_tbl := fun w h => xin_t3 w (x_sub (big := tables_1_3) [204, 207] rfl w h)
def xSt_t4_0 : List Nat := [389, 391, 407, 408]
set_option maxRecDepth 20000 in
theorem xSt_t4_0_in : ∀ w ∈ xSt_t4_0.map xwS, w ∈ lw_tbl := fun w h => xin_t4 w (x_sub (big := tables_1_4) [176, 203, 173, 168] rfl w h)
def xSt_t5_0 : List Nat := [386, 387, 388, 392, 399, 400, 404, 405]
set_option maxRecDepth 20000 in
theorem xSt_t5_0_in : ∀ w ∈ xSt_t5_0.map xwS, w ∈ lw_tbl := fun w h => xin_t5 w (x_sub (big := tables_1_5) [227, 224, 221, 84, 178, 175, 159, 113] rfl w h)
def xSt_t6_0 : List Nat := [119, 390, 398]
set_option maxRecDepth 20000 in
theorem xSt_t6_0_in : ∀ w ∈ xSt_t6_0.map xwS, w ∈ lw_tbl := fun w h => xin_t6 w (x_sub (big := tables_1_6) [86, 122, 183] rfl w h)
def xSt_t7_0 : List Nat := [56, 57, 58, 92, 394, 395]
set_option maxRecDepth 20000 in
theorem xSt_t7_0_in : ∀ w ∈ xSt_t7_0.map xwS, w ∈ lw_tbl := fun w h => xin_t7 w (x_sub (big := tables_1_7) [159, 152, 155, 78, 223, 226] rfl w h)
def xSt_t8_0 : List Nat := [385]
set_option maxRecDepth 20000 in
theorem xSt_t8_0_in : ∀ w ∈ xSt_t8_0.map xwS, w ∈ lw_tbl := fun w h => xin_t8 w (x_sub (big := tables_1_8) [179] rfl w h)
def xSt_t9_0 : List Nat := [51, 221, 222]
set_option maxRecDepth 20000 in
theorem xSt_t9_0_in : ∀ w ∈ xSt_t9_0.map xwS, w ∈ lw_tbl := fun w h => xin_t9 w (x_sub (big := tables_1_9) [166, 5, 46] rfl w h)
def xSt_t12_0 : List Nat := [280, 294, 359]
set_option maxRecDepth 20000 in
theorem xSt_t12_0_in : ∀ w ∈ xSt_t12_0.map xwS, w ∈ lw_tbl := fun w h => xin_t12 w (x_sub (big := tables_1_12) [190, 95, 209] rfl w h)
def xSt_t13_0 : List Nat := [322]
set_option maxRecDepth 20000 in
theorem xSt_t13_0_in : ∀ w ∈ xSt_t13_0.map xwS, w ∈ lw_tbl := fun w h => xin_t13 w (x_sub (big := tables_1_13) [8] rfl w h)
def xSt_t14_0 : List Nat := [302]
set_option maxRecDepth 20000 in
theorem xSt_t14_0_in : ∀ w ∈ xSt_t14_0.map xwS, w ∈ lw_tbl := fun w h => xin_t14 w (x_sub (big := tables_1_14) [37] rfl w h)
def xSt : List Nat := xSt_t1_0 ++ (xSt_t3_0 ++ (xSt_t4_0 ++ (xSt_t5_0 ++ (xSt_t6_0 ++ (xSt_t7_0 ++ (xSt_t8_0 ++ (xSt_t9_0 ++ (xSt_t12_0 ++ (xSt_t13_0 ++ (xSt_t14_0))))))))))
theorem xSt_in : ∀ w ∈ xSt.map xwS, w ∈ lw_tbl := by
  unfold xSt
  (try simp only [List.map_append])
  exact x_app xSt_t1_0_in (x_app xSt_t3_0_in (x_app xSt_t4_0_in (x_app xSt_t5_0_in (x_app xSt_t6_0_in (x_app xSt_t7_0_in (x_app xSt_t8_0_in (x_app xSt_t9_0_in (x_app xSt_t12_0_in (x_app xSt_t13_0_in (xSt_t14_0_in))))))))))
def xIn_t1_0 : List Nat := [9, 17, 40, 108, 140, 195, 220, 401, 402]
set_option maxRecDepth 20000 in
theorem xIn_t1_0_in : ∀ w ∈ xIn_t1_0.map xwI, w ∈ lw_tbl := fun w h => xin_t1 w (x_sub (big := tables_1_1) [64, 166, 196, 203, 190, 58, 40, 67, 70] rfl w h)
def xIn_t2_0 : List Nat := [55, 68, 84, 118]
set_option maxRecDepth 20000 in
theorem xIn_t2_0_in : ∀ w ∈ xIn_t2_0.map xwI, w ∈ lw_tbl := fun w h => xin_t2 w (x_sub (big := tables_1_2) [51, 151, 206, 106] rfl w h)
def xIn_t3_0 : List Nat := [4, 5, 6, 10, 13, 26, 184, 188, 191, 192, 196, 200, 202, 217, 237]
set_option maxRecDepth 20000 in
theorem xIn_t3_0_in : ∀ w ∈ xIn_t3_0.map xwI, w ∈ lw_tbl := fun w h => xin_t3 w (x_sub (big := tables_1_3) [210, 232, 200, 196, 227, 103, 238, 91, 215, 192, 219, 98, 223, 189, 183] rfl w h)
def xIn_t4_0 : List Nat := [0, 1, 2, 7, 8, 12, 14, 60, 61, 132, 144, 154, 155, 178, 185, 197, 198, 199]
set_option maxRecDepth 20000 in
theorem xIn_t4_0_in : ∀ w ∈ xIn_t4_0.map xwI, w ∈ lw_tbl := fun w h => xin_t4 w (x_sub (big := tables_1_4) [157, 217, 152, 165, 161, 222, 128, 132, 23, 140, 15, 2, 11, 7, 18, 213, 148, 143] rfl w h)
def xIn_t5_0 : List Nat := [11]
set_option maxRecDepth 20000 in
theorem xIn_t5_0_in : ∀ w ∈ xIn_t5_0.map xwI, w ∈ lw_tbl := fun w h => xin_t5 w (x_sub (big := tables_1_5) [28] rfl w h)
def xIn_t6_0 : List Nat := [32, 34, 44, 45, 52, 59, 62, 63, 65, 66, 67, 69, 70, 73, 74, 75, 105, 110, 114, 115, 117, 122, 134, 135, 139, 141, 142, 156, 157, 162, 165, 166, 168, 170, 172, 176, 177, 189]
set_option maxRecDepth 20000 in
theorem xIn_t6_0_in : ∀ w ∈ xIn_t6_0.map xwI, w ∈ lw_tbl := fun w h => xin_t6 w (x_sub (big := tables_1_6) [101, 234, 105, 238, 150, 64, 131, 78, 221, 226, 74, 89, 231, 93, 209, 70, 113, 117, 109, 82, 155, 98, 198, 160, 206, 168, 179, 147, 202, 172, 138, 143, 194, 190, 216, 176, 164, 60] rfl w h)
def xIn_t7_0 : List Nat := [19, 33, 35, 47, 53, 54, 72, 76, 77, 78, 81, 86, 87, 88, 89, 90, 93, 100, 101, 104, 106, 107, 111, 112, 116, 120, 121, 123, 125, 127, 128, 131, 138, 143, 150, 152, 153, 159, 160, 161, 164, 169, 171, 173, 174, 175, 179, 180, 182]
set_option maxRecDepth 20000 in
theorem xIn_t7_0_in : ∀ w ∈ xIn_t7_0.map xwI, w ∈ lw_tbl := fun w h => xin_t7 w (x_sub (big := tables_1_7) [173, 62, 10, 90, 49, 122, 58, 211, 70, 182, 220, 186, 66, 75, 169, 178, 216, 190, 195, 83, 14, 6, 53, 2, 165, 207, 149, 203, 115, 128, 111, 199, 24, 40, 27, 144, 140, 36, 136, 132, 102, 20, 107, 95, 119, 32, 46, 87, 98] rfl w h)
def xIn_t8_0 : List Nat := [3, 18, 20, 22, 23, 24, 25, 27, 28, 29, 30, 31, 48, 49, 71, 82, 83, 85, 91, 94, 95, 96, 97, 98, 99, 102, 103, 113, 130, 149, 151, 158, 167, 183, 194, 201, 204, 205, 208, 211, 213, 231, 233]
set_option maxRecDepth 20000 in
theorem xIn_t8_0_in : ∀ w ∈ xIn_t8_0.map xwI, w ∈ lw_tbl := fun w h => xin_t8 w (x_sub (big := tables_1_8) [158, 109, 102, 92, 80, 85, 123, 97, 89, 116, 127, 166, 140, 144, 55, 16, 44, 32, 28, 19, 24, 48, 59, 68, 64, 36, 40, 148, 52, 73, 153, 77, 136, 162, 105, 131, 232, 237, 174, 219, 186, 170, 212] rfl w h)
def xIn_t9_0 : List Nat := [15, 16, 21, 36, 37, 38, 39, 41, 42, 43, 46, 64, 109, 124, 126, 129, 133, 136, 137, 145, 146, 147, 148, 163, 186, 187, 190, 193, 209, 210, 215, 216, 219, 224, 225, 227, 228, 230, 232, 234, 236, 238]
set_option maxRecDepth 20000 in
theorem xIn_t9_0_in : ∀ w ∈ xIn_t9_0.map xwI, w ∈ lw_tbl := fun w h => xin_t9 w (x_sub (big := tables_1_9) [8, 13, 19, 111, 146, 154, 158, 177, 162, 150, 173, 185, 169, 209, 120, 142, 107, 131, 233, 182, 191, 205, 201, 213, 85, 80, 75, 71, 103, 42, 26, 227, 97, 92, 220, 67, 197, 60, 52, 34, 138, 127] rfl w h)
def xIn_t10_0 : List Nat := [50, 79, 80, 181, 203, 206, 207, 212, 214, 218, 223, 226, 229, 235, 239, 241, 274, 297]
set_option maxRecDepth 20000 in
theorem xIn_t10_0_in : ∀ w ∈ xIn_t10_0.map xwI, w ∈ lw_tbl := fun w h => xin_t10 w (x_sub (big := tables_1_10) [24, 39, 50, 4, 73, 89, 66, 11, 20, 81, 31, 36, 57, 0, 46, 113, 106, 95] rfl w h)
def xIn_t12_0 : List Nat := [240, 247, 248, 261, 262, 268, 271, 273, 275, 276, 278, 283, 284, 287, 288, 290, 300, 301, 303, 315, 317, 318, 323, 330, 349, 352, 356, 360, 363, 365, 366, 367, 370, 373, 381, 384]
set_option maxRecDepth 20000 in
theorem xIn_t12_0_in : ∀ w ∈ xIn_t12_0.map xwI, w ∈ lw_tbl := fun w h => xin_t12 w (x_sub (big := tables_1_12) [87, 142, 98, 194, 150, 229, 111, 154, 237, 90, 82, 167, 146, 206, 157, 175, 104, 119, 198, 132, 225, 213, 171, 202, 115, 161, 138, 233, 217, 179, 183, 187, 123, 78, 127, 221] rfl w h)
def xIn_t13_0 : List Nat := [243, 244, 245, 246, 249, 251, 253, 254, 257, 258, 259, 260, 263, 265, 281, 282, 286, 293, 295, 296, 298, 299, 304, 306, 307, 312, 313, 314, 316, 319, 321, 327, 332, 333, 334, 335, 337, 338, 339, 340, 341, 342, 343, 347, 348, 350, 351, 353, 354, 355, 358, 371, 372, 374, 375, 379, 380, 382, 383]
set_option maxRecDepth 20000 in
theorem xIn_t13_0_in : ∀ w ∈ xIn_t13_0.map xwI, w ∈ lw_tbl := fun w h => xin_t13 w (x_sub (big := tables_1_13) [64, 1, 169, 105, 214, 32, 226, 193, 28, 68, 145, 81, 117, 101, 85, 24, 141, 222, 206, 20, 121, 230, 36, 185, 133, 12, 218, 16, 177, 44, 238, 173, 113, 129, 153, 149, 210, 109, 56, 97, 189, 73, 77, 165, 201, 181, 197, 89, 52, 48, 125, 93, 5, 161, 137, 234, 40, 60, 157] rfl w h)
def xIn_t14_0 : List Nat := [242, 250, 252, 255, 256, 264, 266, 267, 269, 270, 272, 277, 279, 285, 289, 291, 292, 305, 308, 309, 310, 311, 320, 324, 325, 326, 328, 329, 331, 336, 344, 345, 346, 357, 361, 362, 364, 368, 369, 376, 377, 378]
set_option maxRecDepth 20000 in
theorem xIn_t14_0_in : ∀ w ∈ xIn_t14_0.map xwI, w ∈ lw_tbl := fun w h => xin_t14 w (x_sub (big := tables_1_14) [164, 14, 172, 115, 160, 176, 65, 74, 10, 33, 70, 135, 139, 107, 123, 26, 168, 99, 144, 149, 58, 61, 119, 52, 110, 156, 48, 127, 91, 43, 103, 87, 95, 131, 82, 29, 78, 6, 2, 22, 18, 152] rfl w h)
def xIn : List Nat := xIn_t1_0 ++ (xIn_t2_0 ++ (xIn_t3_0 ++ (xIn_t4_0 ++ (xIn_t5_0 ++ (xIn_t6_0 ++ (xIn_t7_0 ++ (xIn_t8_0 ++ (xIn_t9_0 ++ (xIn_t10_0 ++ (xIn_t12_0 ++ (xIn_t13_0 ++ (xIn_t14_0))))))))))))
theorem xIn_in : ∀ w ∈ xIn.map xwI, w ∈ lw_tbl := by
  unfold xIn
  (try simp only [List.map_append])
  exact x_app xIn_t1_0_in (x_app xIn_t2_0_in (x_app xIn_t3_0_in (x_app xIn_t4_0_in (x_app xIn_t5_0_in (x_app xIn_t6_0_in (x_app xIn_t7_0_in (x_app xIn_t8_0_in (x_app xIn_t9_0_in (x_app xIn_t10_0_in (x_app xIn_t12_0_in (x_app xIn_t13_0_in (xIn_t14_0_in))))))))))))
def xSe_p1_0 : List Nat := [0, 5, 7, 8, 11, 12, 122, 132, 144, 155, 156, 165, 166, 178, 217]
set_option maxRecDepth 20000 in
theorem xSe_p1_0_in : ∀ w ∈ xSe_p1_0.map xwE, w ∈ lw_tbl := fun w h => xin_p1 w (x_sub (big := k2_sels lw_privs_1) [6, 1, 8, 7, 11, 9, 12, 5, 4, 3, 15, 13, 14, 2, 0] rfl w h)
def xSe_p2_0 : List Nat := [70, 134, 135, 138, 139, 141, 157, 159, 162, 168, 169, 170, 172, 175, 176, 177]
set_option maxRecDepth 20000 in
theorem xSe_p2_0_in : ∀ w ∈ xSe_p2_0.map xwE, w ∈ lw_tbl := fun w h => xin_p2 w (x_sub (big := k2_sels lw_privs_2) [11, 7, 0, 13, 9, 2, 8, 15, 3, 6, 12, 5, 10, 14, 4, 1] rfl w h)
def xSe_p3_0 : List Nat := [88, 104, 121, 125, 127, 128, 143, 152, 153, 160, 161, 171, 173, 174, 179, 180]
set_option maxRecDepth 20000 in
theorem xSe_p3_0_in : ∀ w ∈ xSe_p3_0.map xwE, w ∈ lw_tbl := fun w h => xin_p3 w (x_sub (big := k2_sels lw_privs_3) [2, 3, 15, 8, 10, 7, 0, 14, 13, 12, 11, 6, 5, 9, 1, 4] rfl w h)
def xSe_p4_0 : List Nat := [78, 81, 82, 83, 85, 86, 90, 91, 93, 95, 100, 101, 102, 103, 123, 131]
set_option maxRecDepth 20000 in
theorem xSe_p4_0_in : ∀ w ∈ xSe_p4_0.map xwE, w ∈ lw_tbl := fun w h => xin_p4 w (x_sub (big := k2_sels lw_privs_4) [1, 8, 9, 15, 12, 2, 0, 11, 7, 10, 3, 4, 13, 14, 6, 5] rfl w h)
def xSe_p5_0 : List Nat := [20, 24, 25, 27, 28, 29, 30, 96, 98, 99, 130, 149, 151, 158, 205, 233]
set_option maxRecDepth 20000 in
theorem xSe_p5_0_in : ∀ w ∈ xSe_p5_0.map xwE, w ∈ lw_tbl := fun w h => xin_p5 w (x_sub (big := k2_sels lw_privs_5) [9, 6, 11, 8, 7, 10, 12, 0, 3, 2, 1, 4, 13, 5, 15, 14] rfl w h)
def xSe_p6_0 : List Nat := [126, 145, 146, 219, 226, 240, 241, 271, 274, 300, 301, 315, 349, 356, 370, 381]
set_option maxRecDepth 20000 in
theorem xSe_p6_0_in : ∀ w ∈ xSe_p6_0.map xwE, w ∈ lw_tbl := fun w h => xin_p6 w (x_sub (big := k2_sels lw_privs_6) [1, 2, 3, 0, 4, 7, 6, 9, 5, 8, 11, 14, 10, 15, 12, 13] rfl w h)
def xSe_p7_0 : List Nat := [247, 261, 262, 273, 283, 284, 287, 290, 303, 318, 323, 330, 363, 365, 366, 367]
set_option maxRecDepth 20000 in
theorem xSe_p7_0_in : ∀ w ∈ xSe_p7_0.map xwE, w ∈ lw_tbl := fun w h => xin_p7 w (x_sub (big := k2_sels lw_privs_7) [0, 10, 2, 3, 4, 1, 13, 6, 11, 14, 5, 12, 15, 7, 8, 9] rfl w h)
def xSe_p8_0 : List Nat := [244, 251, 257, 268, 275, 282, 296, 304, 312, 314, 317, 319, 360, 372, 380, 384]
set_option maxRecDepth 20000 in
theorem xSe_p8_0_in : ∀ w ∈ xSe_p8_0.map xwE, w ∈ lw_tbl := fun w h => xin_p8 w (x_sub (big := k2_sels lw_privs_8) [5, 12, 11, 2, 4, 10, 9, 13, 7, 8, 1, 15, 3, 6, 14, 0] rfl w h)
def xSe_p9_0 : List Nat := [243, 246, 258, 260, 265, 281, 338, 339, 340, 342, 343, 353, 354, 355, 371, 382]
set_option maxRecDepth 20000 in
theorem xSe_p9_0_in : ∀ w ∈ xSe_p9_0.map xwE, w ∈ lw_tbl := fun w h => xin_p9 w (x_sub (big := k2_sels lw_privs_9) [4, 14, 5, 8, 13, 9, 15, 2, 12, 6, 7, 10, 1, 0, 11, 3] rfl w h)
def xSe_p10_0 : List Nat := [245, 259, 263, 286, 298, 307, 327, 332, 333, 334, 335, 347, 358, 374, 375, 383]
set_option maxRecDepth 20000 in
theorem xSe_p10_0_in : ∀ w ∈ xSe_p10_0.map xwE, w ∈ lw_tbl := fun w h => xin_p10 w (x_sub (big := k2_sels lw_privs_10) [14, 8, 1, 7, 2, 5, 15, 0, 4, 10, 9, 13, 3, 12, 6, 11] rfl w h)
def xSe_p11_0 : List Nat := [249, 253, 254, 293, 295, 299, 306, 313, 316, 321, 337, 341, 348, 350, 351, 379]
set_option maxRecDepth 20000 in
theorem xSe_p11_0_in : ∀ w ∈ xSe_p11_0.map xwE, w ∈ lw_tbl := fun w h => xin_p11 w (x_sub (big := k2_sels lw_privs_11) [9, 12, 4, 11, 7, 13, 2, 10, 0, 15, 8, 3, 6, 1, 5, 14] rfl w h)
def xSe_p12_0 : List Nat := [250, 267, 269, 272, 285, 291, 305, 310, 331, 344, 345, 346, 368, 369, 376, 377]
set_option maxRecDepth 20000 in
theorem xSe_p12_0_in : ∀ w ∈ xSe_p12_0.map xwE, w ∈ lw_tbl := fun w h => xin_p12 w (x_sub (big := k2_sels lw_privs_12) [3, 9, 2, 8, 15, 6, 13, 7, 11, 14, 10, 12, 1, 0, 5, 4] rfl w h)
def xSe_p13_0 : List Nat := [255, 309]
set_option maxRecDepth 20000 in
theorem xSe_p13_0_in : ∀ w ∈ xSe_p13_0.map xwE, w ∈ lw_tbl := fun w h => xin_p13 w (x_sub (big := k2_sels lw_privs_13) [0, 1] rfl w h)
def xSe_t3_0 : List Nat := [4, 6, 10, 13, 184, 188, 191, 192, 196, 200, 202, 237]
set_option maxRecDepth 20000 in
theorem xSe_t3_0_in : ∀ w ∈ xSe_t3_0.map xwE, w ∈ lw_tbl := fun w h => xin_t3 w (x_sub (big := tables_1_3) [211, 201, 197, 228, 239, 92, 216, 193, 220, 99, 224, 184] rfl w h)
def xSe_t4_0 : List Nat := [1, 2, 14, 60, 154, 185, 197, 198, 199]
set_option maxRecDepth 20000 in
theorem xSe_t4_0_in : ∀ w ∈ xSe_t4_0.map xwE, w ∈ lw_tbl := fun w h => xin_t4 w (x_sub (big := tables_1_4) [218, 153, 129, 133, 3, 19, 214, 149, 144] rfl w h)
def xSe_t6_0 : List Nat := [32, 34, 44, 45, 52, 59, 62, 63, 65, 66, 67, 69, 73, 74, 75, 105, 110, 114, 115, 117, 142, 189]
set_option maxRecDepth 20000 in
theorem xSe_t6_0_in : ∀ w ∈ xSe_t6_0.map xwE, w ∈ lw_tbl := fun w h => xin_t6 w (x_sub (big := tables_1_6) [102, 235, 106, 239, 151, 65, 132, 79, 222, 227, 75, 90, 94, 210, 71, 114, 118, 110, 83, 156, 180, 61] rfl w h)
def xSe_t7_0 : List Nat := [19, 33, 35, 47, 53, 54, 72, 76, 77, 87, 89, 106, 107, 111, 112, 116, 120, 150, 164, 182]
set_option maxRecDepth 20000 in
theorem xSe_t7_0_in : ∀ w ∈ xSe_t7_0.map xwE, w ∈ lw_tbl := fun w h => xin_t7 w (x_sub (big := tables_1_7) [174, 63, 11, 91, 50, 123, 59, 212, 71, 67, 170, 15, 7, 54, 3, 166, 208, 28, 103, 99] rfl w h)
def xSe_t8_0 : List Nat := [3, 18, 22, 23, 31, 48, 49, 71, 94, 97, 113, 167, 183, 194, 201, 204, 208, 211, 213, 231]
set_option maxRecDepth 20000 in
theorem xSe_t8_0_in : ∀ w ∈ xSe_t8_0.map xwE, w ∈ lw_tbl := fun w h => xin_t8 w (x_sub (big := tables_1_8) [159, 110, 93, 81, 167, 141, 145, 56, 20, 60, 149, 137, 163, 106, 132, 233, 175, 220, 187, 171] rfl w h)
def xSe_t9_0 : List Nat := [15, 16, 21, 36, 37, 38, 39, 41, 42, 43, 46, 64, 109, 124, 129, 133, 136, 137, 147, 148, 163, 186, 187, 190, 193, 209, 210, 215, 216, 224, 225, 227, 228, 230, 232, 234, 236, 238]
set_option maxRecDepth 20000 in
theorem xSe_t9_0_in : ∀ w ∈ xSe_t9_0.map xwE, w ∈ lw_tbl := fun w h => xin_t9 w (x_sub (big := tables_1_9) [9, 14, 20, 112, 147, 155, 159, 178, 163, 151, 174, 186, 170, 210, 143, 108, 132, 234, 206, 202, 214, 86, 81, 76, 72, 104, 43, 27, 228, 93, 221, 68, 198, 61, 53, 35, 139, 128] rfl w h)
def xSe_t10_0 : List Nat := [50, 79, 80, 181, 203, 206, 207, 212, 214, 218, 223, 229, 235, 239]
set_option maxRecDepth 20000 in
theorem xSe_t10_0_in : ∀ w ∈ xSe_t10_0.map xwE, w ∈ lw_tbl := fun w h => xin_t10 w (x_sub (big := tables_1_10) [25, 40, 51, 5, 74, 90, 67, 12, 21, 82, 32, 58, 1, 47] rfl w h)
def xSe_t12_0 : List Nat := [248, 276, 278, 288, 352, 373]
set_option maxRecDepth 20000 in
theorem xSe_t12_0_in : ∀ w ∈ xSe_t12_0.map xwE, w ∈ lw_tbl := fun w h => xin_t12 w (x_sub (big := tables_1_12) [99, 91, 83, 158, 162, 79] rfl w h)
def xSe_t14_0 : List Nat := [242, 252, 256, 264, 266, 270, 277, 279, 289, 292, 308, 311, 320, 324, 325, 326, 328, 329, 336, 357, 361, 362, 364, 378]
set_option maxRecDepth 20000 in
theorem xSe_t14_0_in : ∀ w ∈ xSe_t14_0.map xwE, w ∈ lw_tbl := fun w h => xin_t14 w (x_sub (big := tables_1_14) [165, 173, 161, 177, 66, 34, 136, 140, 124, 169, 145, 62, 120, 53, 111, 157, 49, 128, 44, 132, 83, 30, 79, 153] rfl w h)
def xSe : List Nat := xSe_p1_0 ++ (xSe_p2_0 ++ (xSe_p3_0 ++ (xSe_p4_0 ++ (xSe_p5_0 ++ (xSe_p6_0 ++ (xSe_p7_0 ++ (xSe_p8_0 ++ (xSe_p9_0 ++ (xSe_p10_0 ++ (xSe_p11_0 ++ (xSe_p12_0 ++ (xSe_p13_0 ++ (xSe_t3_0 ++ (xSe_t4_0 ++ (xSe_t6_0 ++ (xSe_t7_0 ++ (xSe_t8_0 ++ (xSe_t9_0 ++ (xSe_t10_0 ++ (xSe_t12_0 ++ (xSe_t14_0)))))))))))))))))))))
theorem xSe_in : ∀ w ∈ xSe.map xwE, w ∈ lw_tbl := by
  unfold xSe
  (try simp only [List.map_append])
  exact x_app xSe_p1_0_in (x_app xSe_p2_0_in (x_app xSe_p3_0_in (x_app xSe_p4_0_in (x_app xSe_p5_0_in (x_app xSe_p6_0_in (x_app xSe_p7_0_in (x_app xSe_p8_0_in (x_app xSe_p9_0_in (x_app xSe_p10_0_in (x_app xSe_p11_0_in (x_app xSe_p12_0_in (x_app xSe_p13_0_in (x_app xSe_t3_0_in (x_app xSe_t4_0_in (x_app xSe_t6_0_in (x_app xSe_t7_0_in (x_app xSe_t8_0_in (x_app xSe_t9_0_in (x_app xSe_t10_0_in (x_app xSe_t12_0_in (xSe_t14_0_in)))))))))))))))))))))
def xIni_t1_0 : List Nat := [0, 1, 2, 3, 4, 5, 6, 7, 8, 9, 10, 11, 12, 13, 14, 15, 16, 17, 18, 19, 20, 21, 22, 23, 24, 25]
set_option maxRecDepth 20000 in
theorem xIni_t1_0_in : ∀ w ∈ xIni_t1_0.map xwZ, w ∈ lw_tbl := fun w h => xin_t1 w (x_sub (big := tables_1_1) [31, 30, 36, 6, 8, 16, 10, 12, 25, 14, 15, 11, 13, 9, 3, 1, 17, 0, 7, 2, 35, 5, 4, 26, 27, 28] rfl w h)
def xIni : List Nat := xIni_t1_0
theorem xIni_in : ∀ w ∈ xIni.map xwZ, w ∈ lw_tbl := by
  unfold xIni
  (try simp only [List.map_append])
  exact xIni_t1_0_in
def xIt_t1_0 : List Nat := [3, 4, 6, 11, 13, 14, 15]
set_option maxRecDepth 20000 in
theorem xIt_t1_0_in : ∀ w ∈ xIt_t1_0.map xwT, w ∈ lw_tbl := fun w h => xin_t1 w (x_sub (big := tables_1_1) [62, 164, 194, 201, 188, 56, 38] rfl w h)
def xIt_t2_0 : List Nat := [7, 9, 10, 12]
set_option maxRecDepth 20000 in
theorem xIt_t2_0_in : ∀ w ∈ xIt_t2_0.map xwT, w ∈ lw_tbl := fun w h => xin_t2 w (x_sub (big := tables_1_2) [49, 149, 204, 104] rfl w h)
def xIt_t3_0 : List Nat := [5]
set_option maxRecDepth 20000 in
theorem xIt_t3_0_in : ∀ w ∈ xIt_t3_0.map xwT, w ∈ lw_tbl := fun w h => xin_t3 w (x_sub (big := tables_1_3) [101] rfl w h)
def xIt_t4_0 : List Nat := [8]
set_option maxRecDepth 20000 in
theorem xIt_t4_0_in : ∀ w ∈ xIt_t4_0.map xwT, w ∈ lw_tbl := fun w h => xin_t4 w (x_sub (big := tables_1_4) [21] rfl w h)
def xIt_t10_0 : List Nat := [16]
set_option maxRecDepth 20000 in
theorem xIt_t10_0_in : ∀ w ∈ xIt_t10_0.map xwT, w ∈ lw_tbl := fun w h => xin_t10 w (x_sub (big := tables_1_10) [93] rfl w h)
def xIt : List Nat := xIt_t1_0 ++ (xIt_t2_0 ++ (xIt_t3_0 ++ (xIt_t4_0 ++ (xIt_t10_0))))
theorem xIt_in : ∀ w ∈ xIt.map xwT, w ∈ lw_tbl := by
  unfold xIt
  (try simp only [List.map_append])
  exact x_app xIt_t1_0_in (x_app xIt_t2_0_in (x_app xIt_t3_0_in (x_app xIt_t4_0_in (xIt_t10_0_in))))
def xOb_t1_0 : List (Nat × Nat) := [(15, 3), (14, 3), (22, 1), (4, 3), (13, 3), (6, 3), (11, 3)]
set_option maxRecDepth 20000 in
theorem xOb_t1_0_in : ∀ w ∈ xOb_t1_0.map xwB, w ∈ lw_tbl := fun w h => xin_t1 w (x_sub (big := tables_1_1) [42, 60, 72, 168, 192, 198, 205] rfl w h)
def xOb_t2_0 : List (Nat × Nat) := [(7, 3), (12, 3), (9, 3), (10, 3)]
set_option maxRecDepth 20000 in
theorem xOb_t2_0_in : ∀ w ∈ xOb_t2_0.map xwB, w ∈ lw_tbl := fun w h => xin_t2 w (x_sub (big := tables_1_2) [53, 108, 153, 208] rfl w h)
def xOb_t3_0 : List (Nat × Nat) := [(5, 3)]
set_option maxRecDepth 20000 in
theorem xOb_t3_0_in : ∀ w ∈ xOb_t3_0.map xwB, w ∈ lw_tbl := fun w h => xin_t3 w (x_sub (big := tables_1_3) [105] rfl w h)
def xOb_t4_0 : List (Nat × Nat) := [(8, 3)]
set_option maxRecDepth 20000 in
theorem xOb_t4_0_in : ∀ w ∈ xOb_t4_0.map xwB, w ∈ lw_tbl := fun w h => xin_t4 w (x_sub (big := tables_1_4) [25] rfl w h)
def xOb_t5_0 : List (Nat × Nat) := [(0, 1)]
set_option maxRecDepth 20000 in
theorem xOb_t5_0_in : ∀ w ∈ xOb_t5_0.map xwB, w ∈ lw_tbl := fun w h => xin_t5 w (x_sub (big := tables_1_5) [205] rfl w h)
def xOb_t10_0 : List (Nat × Nat) := [(16, 1)]
set_option maxRecDepth 20000 in
theorem xOb_t10_0_in : ∀ w ∈ xOb_t10_0.map xwB, w ∈ lw_tbl := fun w h => xin_t10 w (x_sub (big := tables_1_10) [97] rfl w h)
def xOb : List (Nat × Nat) := xOb_t1_0 ++ (xOb_t2_0 ++ (xOb_t3_0 ++ (xOb_t4_0 ++ (xOb_t5_0 ++ (xOb_t10_0)))))
theorem xOb_in : ∀ w ∈ xOb.map xwB, w ∈ lw_tbl := by
  unfold xOb
  (try simp only [List.map_append])
  exact x_app xOb_t1_0_in (x_app xOb_t2_0_in (x_app xOb_t3_0_in (x_app xOb_t4_0_in (x_app xOb_t5_0_in (xOb_t10_0_in)))))
def xCp_t3_0 : List (Nat × Nat) := [(3, 112)]
set_option maxRecDepth 20000 in
theorem xCp_t3_0_in : ∀ w ∈ xCp_t3_0.map xwP, w ∈ lw_tbl := fun w h => xin_t3 w (x_sub (big := tables_1_3) [234] rfl w h)
def xCp_t4_0 : List (Nat × Nat) := [(8, 68), (18, 150)]
set_option maxRecDepth 20000 in
theorem xCp_t4_0_in : ∀ w ∈ xCp_t4_0.map xwP, w ∈ lw_tbl := fun w h => xin_t4 w (x_sub (big := tables_1_4) [137, 209] rfl w h)
def xCp_t5_0 : List (Nat × Nat) := [(0, 212)]
set_option maxRecDepth 20000 in
theorem xCp_t5_0_in : ∀ w ∈ xCp_t5_0.map xwP, w ∈ lw_tbl := fun w h => xin_t5 w (x_sub (big := tables_1_5) [165] rfl w h)
def xCp_t6_0 : List (Nat × Nat) := [(11, 49), (9, 61)]
set_option maxRecDepth 20000 in
theorem xCp_t6_0_in : ∀ w ∈ xCp_t6_0.map xwP, w ∈ lw_tbl := fun w h => xin_t6 w (x_sub (big := tables_1_6) [129, 135] rfl w h)
def xCp_t7_0 : List (Nat × Nat) := [(13, 410), (6, 63), (10, 68)]
set_option maxRecDepth 20000 in
theorem xCp_t7_0_in : ∀ w ∈ xCp_t7_0.map xwP, w ∈ lw_tbl := fun w h => xin_t7 w (x_sub (big := tables_1_7) [43, 56, 80] rfl w h)
def xCp_t8_0 : List (Nat × Nat) := [(5, 142)]
set_option maxRecDepth 20000 in
theorem xCp_t8_0_in : ∀ w ∈ xCp_t8_0.map xwP, w ∈ lw_tbl := fun w h => xin_t8 w (x_sub (big := tables_1_8) [120] rfl w h)
def xCp_t9_0 : List (Nat × Nat) := [(4, 38)]
set_option maxRecDepth 20000 in
theorem xCp_t9_0_in : ∀ w ∈ xCp_t9_0.map xwP, w ∈ lw_tbl := fun w h => xin_t9 w (x_sub (big := tables_1_9) [17] rfl w h)
def xCp_t10_0 : List (Nat × Nat) := [(15, 296)]
set_option maxRecDepth 20000 in
theorem xCp_t10_0_in : ∀ w ∈ xCp_t10_0.map xwP, w ∈ lw_tbl := fun w h => xin_t10 w (x_sub (big := tables_1_10) [76] rfl w h)
def xCp : List (Nat × Nat) := xCp_t3_0 ++ (xCp_t4_0 ++ (xCp_t5_0 ++ (xCp_t6_0 ++ (xCp_t7_0 ++ (xCp_t8_0 ++ (xCp_t9_0 ++ (xCp_t10_0)))))))
theorem xCp_in : ∀ w ∈ xCp.map xwP, w ∈ lw_tbl := by
  unfold xCp
  (try simp only [List.map_append])
  exact x_app xCp_t3_0_in (x_app xCp_t4_0_in (x_app xCp_t5_0_in (x_app xCp_t6_0_in (x_app xCp_t7_0_in (x_app xCp_t8_0_in (x_app xCp_t9_0_in (xCp_t10_0_in)))))))
def xAb_t1_0 : List Jvm.Cond := [.initialized "java/lang/System", .instanceMethod objectInit, .code objectInit ⟨#[0xb1]⟩ 1 none, .arrayClass .int, .arrayClass .long, .arrayClass .byte, .arrayOver (.object "AgreedStore$Server"), .arrayOver (.object "AgreedStore$Client"), .arrayOver (.object "AgreedStore$Page")]
set_option maxRecDepth 20000 in
theorem xAb_t1_0_in : ∀ w ∈ xAb_t1_0, w ∈ lw_tbl := fun w h => xin_t1 w (x_sub (big := tables_1_1) [24, 43, 44, 88, 89, 87, 46, 48, 200] rfl w h)
def xAb_t2_0 : List Jvm.Cond := [.arrayClass .boolean]
set_option maxRecDepth 20000 in
theorem xAb_t2_0_in : ∀ w ∈ xAb_t2_0, w ∈ lw_tbl := fun w h => xin_t2 w (x_sub (big := tables_1_2) [102] rfl w h)
def xAb_t3_0 : List Jvm.Cond := [.native arraycopyName, .static arraycopyName]
set_option maxRecDepth 20000 in
theorem xAb_t3_0_in : ∀ w ∈ xAb_t3_0, w ∈ lw_tbl := fun w h => xin_t3 w (x_sub (big := tables_1_3) [236, 235] rfl w h)
def xAb_t4_0 : List Jvm.Cond := [.arrayOver (.object "java/lang/Object")]
set_option maxRecDepth 20000 in
theorem xAb_t4_0_in : ∀ w ∈ xAb_t4_0, w ∈ lw_tbl := fun w h => xin_t4 w (x_sub (big := tables_1_4) [206] rfl w h)
def xAb : List Jvm.Cond := xAb_t1_0 ++ (xAb_t2_0 ++ (xAb_t3_0 ++ (xAb_t4_0)))
theorem xAb_in : ∀ w ∈ xAb, w ∈ lw_tbl := x_app xAb_t1_0_in (x_app xAb_t2_0_in (x_app xAb_t3_0_in (xAb_t4_0_in)))
def xMs_t1_0 : List (Nat × ByteArray × Nat × Option FieldType × Nat) := [(9, cJx4a65c_init_da8c8, 1, none, 0), (17, cX0_init, 1, none, 0), (40, cX2_init, 2, none, 0), (108, cX7_init, 1, none, 0), (140, cX9_init, 5, none, 4), (195, cX10_init, 4, none, 1), (220, cX11_init, 6, none, 2), (393, cJ7_fill_53178, 4, none, 2), (396, cJ9_max_7cf53, 2, (some FieldType.int), 2), (397, cJ9_min_7cf53, 2, (some FieldType.int), 2), (401, cJxc12de_init_da8c8, 1, none, 0), (402, cJxa1e45_init_da8c8, 1, none, 0)]
set_option maxRecDepth 20000 in
theorem xMs_t1_0_in : ∀ w ∈ xMs_t1_0.map xwC, w ∈ lw_tbl := fun w h => xin_t1 w (x_sub (big := tables_1_1) [65, 167, 197, 204, 191, 59, 41, 92, 54, 51, 68, 71] rfl w h)
def xMs_t2_0 : List (Nat × ByteArray × Nat × Option FieldType × Nat) := [(55, cX3_init, 1, none, 0), (68, cX5_init, 2, none, 1), (84, cX6_init, 3, none, 1), (118, cX8_init, 1, none, 0)]
set_option maxRecDepth 20000 in
theorem xMs_t2_0_in : ∀ w ∈ xMs_t2_0.map xwC, w ∈ lw_tbl := fun w h => xin_t2 w (x_sub (big := tables_1_2) [52, 152, 207, 107] rfl w h)
def xMs_t3_0 : List (Nat × ByteArray × Nat × Option FieldType × Nat) := [(4, cJx4a65c_elementData_915e3, 2, (some (FieldType.object "java/lang/Object")), 1), (5, cJx4a65c_fastRemove_b59b0, 4, none, 2), (6, cJx4a65c_get_915e3, 2, (some (FieldType.object "java/lang/Object")), 1), (10, cJx4a65c_isEmpty_aae02, 1, (some FieldType.boolean), 0), (13, cJx4a65c_remove_915e3, 4, (some (FieldType.object "java/lang/Object")), 1), (26, cX1_init, 4, none, 3), (188, cX10_drawAlarm, 2, none, 1), (191, cX10_firstBell, 3, (some FieldType.int), 0), (192, cX10_firstLetter, 1, (some (FieldType.object "AgreedStore$Letter")), 0), (196, cX10_isBefore, 3, (some FieldType.boolean), 2), (200, cX10_setBell, 3, none, 2), (202, cX10_takeFirstLetter, 1, none, 0), (217, cX11_happen, 5, (some FieldType.int), 1), (237, cX11_step, 1, (some FieldType.int), 0), (403, cJ15_checkIndex_7cf53, 2, (some FieldType.int), 2), (406, cJ3_checkIndex_8e157, 3, (some FieldType.int), 3)]
set_option maxRecDepth 20000 in
theorem xMs_t3_0_in : ∀ w ∈ xMs_t3_0.map xwC, w ∈ lw_tbl := fun w h => xin_t3 w (x_sub (big := tables_1_3) [212, 233, 202, 198, 229, 104, 93, 217, 194, 221, 100, 225, 190, 185, 205, 208] rfl w h)
def xMs_t4_0 : List (Nat × ByteArray × Nat × Option FieldType × Nat) := [(0, cJx4a65c_add_72be8, 4, none, 3), (1, cJx4a65c_add_7a177, 5, none, 2), (2, cJx4a65c_add_9ea2d, 2, (some FieldType.boolean), 1), (7, cJx4a65c_grow_92f84, 4, (some (FieldType.array (FieldType.object "java/lang/Object"))), 1), (8, cJx4a65c_grow_d5877, 1, (some (FieldType.array (FieldType.object "java/lang/Object"))), 0), (12, cJx4a65c_rangeCheckForAdd_d00df, 2, none, 1), (14, cJx4a65c_size_8abf5, 1, (some FieldType.int), 0), (60, cX4_fill, 4, none, 3), (61, cX4_init, 1, none, 0), (132, cX9_dispatch, 2, none, 1), (144, cX9_letterTo, 4, (some (FieldType.object "AgreedStore$Letter")), 2), (154, cX9_receive, 3, none, 1), (155, cX9_reply, 7, none, 5), (178, cX9_takeRequest, 3, none, 1), (184, cX10_areParted, 3, (some FieldType.boolean), 2), (185, cX10_blank, 1, (some (FieldType.object "AgreedStore$Letter")), 0), (197, cX10_launch, 4, none, 2), (198, cX10_lose, 2, none, 1), (199, cX10_post, 5, none, 1), (389, cJ7_copyOf_1904c, 2, (some (FieldType.array (FieldType.object "java/lang/Object"))), 2), (391, cJ7_copyOf_6403c, 4, (some (FieldType.array (FieldType.object "java/lang/Object"))), 3), (407, cJ8_hugeLength_7cf53, 3, (some FieldType.int), 2), (408, cJ8_newLength_cabcc, 4, (some FieldType.int), 3)]
set_option maxRecDepth 20000 in
theorem xMs_t4_0_in : ∀ w ∈ xMs_t4_0.map xwC, w ∈ lw_tbl := fun w h => xin_t4 w (x_sub (big := tables_1_4) [158, 219, 154, 166, 162, 223, 130, 134, 24, 141, 16, 4, 12, 8, 0, 20, 215, 150, 145, 177, 204, 174, 169] rfl w h)
def xMs_t5_0 : List (Nat × ByteArray × Nat × Option FieldType × Nat) := [(11, cJx4a65c_outOfBoundsMsg_b52d3, 2, (some (FieldType.object "java/lang/String")), 1), (386, cJ7_checkLength_df160, 2, none, 2), (387, cJ7_copyOfRangeByte_39247, 5, (some (FieldType.array FieldType.byte)), 3), (388, cJ7_copyOfRange_39247, 3, (some (FieldType.array FieldType.byte)), 3), (392, cJ7_copyOf_9075b, 3, (some (FieldType.array FieldType.byte)), 2), (399, cJ6_getChars_ba4f3, 7, (some FieldType.int), 3), (400, cJ6_stringSize_0f7a4, 4, (some FieldType.int), 1), (404, cJ3_checkFromIndexSize_8c36e, 4, (some FieldType.int), 4), (405, cJ3_checkFromToIndex_8c36e, 4, (some FieldType.int), 4)]
set_option maxRecDepth 20000 in
theorem xMs_t5_0_in : ∀ w ∈ xMs_t5_0.map xwC, w ∈ lw_tbl := fun w h => xin_t5 w (x_sub (big := tables_1_5) [29, 228, 225, 222, 85, 179, 176, 160, 114] rfl w h)
def xMs_t6_0 : List (Nat × ByteArray × Nat × Option FieldType × Nat) := [(32, cX2_append, 5, none, 4), (34, cX2_cutFrom, 3, none, 1), (44, cX2_openSegment, 4, none, 2), (52, cX2_writeSlot, 3, none, 2), (59, cX4_copyFrom, 2, none, 1), (62, cX5_add, 3, none, 2), (63, cX5_at, 2, (some FieldType.int), 1), (65, cX5_cutFrom, 2, none, 1), (66, cX5_findMembers, 1, none, 0), (67, cX5_has, 2, (some FieldType.boolean), 1), (69, cX5_length, 1, (some FieldType.int), 0), (70, cX5_membersBehind, 3, (some FieldType.int), 1), (73, cX5_rowOf, 7, (some (FieldType.array FieldType.int)), 6), (74, cX5_runStart, 4, (some FieldType.int), 1), (75, cX5_termAt, 2, (some FieldType.int), 1), (105, cX7_add, 3, none, 2), (110, cX7_makeRoom, 3, none, 1), (114, cX7_write, 5, none, 4), (115, cX8_begin, 6, none, 4), (117, cX8_dropAll, 2, none, 0), (119, cX8_slotOf, 1, (some FieldType.int), 1), (122, cX9_append, 3, none, 2), (134, cX9_fits, 3, (some FieldType.boolean), 1), (135, cX9_follow, 2, none, 1), (139, cX9_heeds, 2, (some FieldType.boolean), 1), (141, cX9_isAsNew, 3, (some FieldType.boolean), 1), (142, cX9_isMajority, 4, (some FieldType.boolean), 1), (156, cX9_saveTerm, 3, none, 2), (157, cX9_sendAppended, 6, none, 4), (162, cX9_sendVote, 6, none, 4), (165, cX9_soil, 1, none, 0), (166, cX9_stepDown, 3, none, 2), (168, cX9_takeAnswer, 2, none, 1), (170, cX9_takeAsk, 3, none, 1), (172, cX9_takeEntries, 6, none, 1), (176, cX9_takePreanswer, 2, none, 1), (177, cX9_takePreask, 3, none, 1), (189, cX10_drawn, 2, (some FieldType.int), 1), (390, cJ7_copyOf_59c91, 3, (some (FieldType.array FieldType.int)), 2), (398, cJ6_bitCount_0f7a4, 1, (some FieldType.int), 1)]
set_option maxRecDepth 20000 in
theorem xMs_t6_0_in : ∀ w ∈ xMs_t6_0.map xwC, w ∈ lw_tbl := fun w h => xin_t6 w (x_sub (big := tables_1_6) [103, 236, 107, 152, 66, 133, 80, 223, 228, 76, 91, 232, 95, 211, 72, 115, 119, 111, 84, 157, 87, 99, 199, 161, 207, 169, 181, 148, 203, 173, 139, 144, 195, 191, 217, 177, 165, 62, 123, 184] rfl w h)
def xMs_t7_0 : List (Nat × ByteArray × Nat × Option FieldType × Nat) := [(19, cX0_tell, 3, (some FieldType.int), 2), (33, cX2_baseMoved, 7, none, 2), (35, cX2_cutTo, 3, none, 2), (45, cX2_remove, 2, none, 1), (47, cX2_snapshotSize, 1, (some FieldType.int), 0), (53, cX2_writeSnapshot, 7, none, 5), (54, cX3_begin, 4, none, 2), (56, cX3_isReached, 5, (some FieldType.boolean), 3), (57, cX3_most, 4, (some FieldType.int), 2), (58, cX3_mostOf, 4, (some FieldType.int), 2), (72, cX5_moveBase, 5, none, 3), (76, cX6_admit, 7, (some FieldType.int), 3), (77, cX6_clear, 1, none, 0), (78, cX6_compare, 7, (some FieldType.int), 3), (81, cX6_dropOldestSession, 4, none, 0), (86, cX6_isKey, 4, (some FieldType.boolean), 3), (87, cX6_load, 9, none, 2), (88, cX6_loadSessions, 9, (some FieldType.int), 2), (89, cX6_look, 8, none, 1), (90, cX6_lowerBound, 6, (some FieldType.int), 2), (92, cX6_numberAt, 6, (some FieldType.int), 4), (93, cX6_openSession, 3, none, 1), (100, cX6_say, 4, none, 2), (101, cX6_sayNext, 3, none, 1), (104, cX6_unitsOf, 3, (some FieldType.int), 1), (106, cX7_cutTo, 2, none, 1), (107, cX7_frameStart, 2, (some FieldType.int), 1), (111, cX7_makeRoomForBytes, 2, none, 1), (112, cX7_remove, 1, none, 0), (116, cX8_drop, 2, none, 1), (120, cX8_waitsFor, 3, (some FieldType.int), 1), (121, cX9_answerReads, 5, none, 0), (123, cX9_apply, 6, none, 0), (125, cX9_askVoters, 6, none, 2), (127, cX9_beat, 3, none, 0), (128, cX9_campaign, 1, none, 0), (131, cX9_countMatches, 2, none, 0), (138, cX9_hears, 2, (some FieldType.boolean), 1), (143, cX9_keepPiece, 2, none, 1), (150, cX9_peers, 1, (some FieldType.int), 0), (152, cX9_putEntries, 4, none, 3), (153, cX9_putPiece, 3, none, 2), (159, cX9_sendStored, 6, none, 4), (160, cX9_sendTo, 8, none, 2), (161, cX9_sendToAll, 4, none, 1), (164, cX9_settle, 2, none, 1), (169, cX9_takeAppended, 4, none, 1), (171, cX9_takeDue, 3, (some FieldType.boolean), 1), (173, cX9_takeGo, 2, none, 1), (174, cX9_takeLead, 1, none, 0), (175, cX9_takePiece, 4, none, 1), (179, cX9_takeSnapshot, 2, none, 1), (180, cX9_takeStored, 3, none, 1), (182, cX9_voters, 1, (some FieldType.int), 0), (394, cJ7_fill_fda19, 5, none, 4), (395, cJ7_rangeCheck_23922, 3, none, 3)]
set_option maxRecDepth 20000 in
theorem xMs_t7_0_in : ∀ w ∈ xMs_t7_0.map xwC, w ∈ lw_tbl := fun w h => xin_t7 w (x_sub (big := tables_1_7) [175, 64, 12, 0, 92, 51, 124, 160, 153, 156, 60, 213, 72, 183, 221, 187, 68, 76, 171, 179, 79, 217, 191, 196, 84, 16, 8, 55, 4, 167, 209, 150, 204, 116, 129, 112, 200, 25, 41, 29, 145, 141, 37, 137, 133, 104, 21, 108, 96, 120, 33, 47, 88, 100, 224, 227] rfl w h)
def xMs_t8_0 : List (Nat × ByteArray × Nat × Option FieldType × Nat) := [(3, cJx4a65c_clear_da8c8, 4, none, 0), (18, cX0_setTold, 5, none, 3), (20, cX1_beTold, 3, none, 2), (22, cX1_giveIn, 1, none, 0), (23, cX1_hear, 2, none, 1), (24, cX1_hearDone, 2, none, 1), (25, cX1_hearElsewhere, 2, none, 1), (27, cX1_isCommand, 1, (some FieldType.boolean), 0), (28, cX1_sendRequest, 2, none, 0), (29, cX1_setAlarm, 3, none, 2), (30, cX1_turnToNext, 1, none, 0), (31, cX1_wake, 1, none, 0), (48, cX2_syncAll, 2, none, 0), (49, cX2_syncFile, 2, none, 1), (71, cX5_membersUpTo, 3, (some FieldType.int), 1), (82, cX6_findSession, 3, (some FieldType.int), 1), (83, cX6_hasValue, 6, (some FieldType.boolean), 3), (85, cX6_insertKey, 5, none, 3), (91, cX6_mayStore, 5, (some FieldType.boolean), 3), (94, cX6_operate, 9, none, 3), (95, cX6_putKey, 6, none, 3), (96, cX6_removeKey, 5, none, 2), (97, cX6_save, 6, (some FieldType.int), 0), (98, cX6_saveNumber, 4, (some FieldType.int), 2), (99, cX6_savedSize, 3, (some FieldType.int), 0), (102, cX6_storeValue, 5, none, 3), (103, cX6_swapKey, 6, none, 4), (113, cX7_takeOver, 4, none, 2), (130, cX9_compact, 4, none, 0), (149, cX9_moveMembers, 2, none, 0), (151, cX9_postWaiting, 2, none, 0), (158, cX9_sendBack, 2, none, 1), (167, cX9_sync, 1, none, 0), (183, cX9_wake, 1, none, 0), (194, cX10_hush, 2, none, 1), (201, cX10_takeBell, 2, none, 1), (204, cX11_ask, 8, (some FieldType.int), 4), (205, cX11_asker, 2, (some (FieldType.object "AgreedStore$Client")), 1), (208, cX11_count, 2, (some FieldType.int), 1), (211, cX11_end, 2, (some FieldType.int), 1), (213, cX11_feed, 6, (some FieldType.int), 5), (231, cX11_now, 1, (some FieldType.int), 0), (233, cX11_putOnTape, 3, none, 1), (385, cL_cell, 2, (some FieldType.int), 2)]
set_option maxRecDepth 20000 in
theorem xMs_t8_0_in : ∀ w ∈ xMs_t8_0.map xwC, w ∈ lw_tbl := fun w h => xin_t8 w (x_sub (big := tables_1_8) [160, 111, 103, 94, 82, 86, 124, 98, 90, 117, 128, 168, 142, 146, 57, 17, 45, 33, 29, 21, 25, 49, 61, 69, 65, 37, 41, 150, 53, 74, 154, 78, 138, 164, 107, 133, 234, 238, 176, 221, 188, 172, 213, 180] rfl w h)
def xMs_t9_0 : List (Nat × ByteArray × Nat × Option FieldType × Nat) := [(15, cX0_add, 6, (some FieldType.int), 4), (16, cX0_addBytes, 4, none, 3), (21, cX1_begin, 2, none, 1), (36, cX2_fall, 7, none, 1), (37, cX2_find, 2, none, 0), (38, cX2_findChain, 5, none, 0), (39, cX2_firstSegment, 4, (some FieldType.int), 1), (41, cX2_isChained, 3, (some FieldType.boolean), 1), (42, cX2_isSegment, 2, (some FieldType.boolean), 1), (43, cX2_later, 6, (some FieldType.int), 3), (46, cX2_segmentAt, 4, (some FieldType.int), 2), (51, cX2_tellsTerm, 4, (some FieldType.boolean), 3), (64, cX5_clear, 1, none, 0), (109, cX7_lastTerm, 1, (some FieldType.int), 0), (124, cX9_areKnown, 6, (some FieldType.boolean), 1), (126, cX9_beDown, 1, none, 0), (129, cX9_comeUp, 1, none, 0), (133, cX9_fall, 4, none, 1), (136, cX9_goDown, 1, none, 0), (137, cX9_handOver, 2, none, 1), (145, cX9_loadLog, 4, none, 0), (146, cX9_loadTerm, 3, none, 0), (147, cX9_mayLead, 1, (some FieldType.boolean), 0), (148, cX9_maySetMembers, 1, (some FieldType.boolean), 0), (163, cX9_setMembers, 2, none, 1), (186, cX10_deferLetter, 4, none, 2), (187, cX10_doubleLetter, 4, none, 1), (190, cX10_dropLetter, 2, none, 1), (193, cX10_hasLetter, 2, (some FieldType.boolean), 1), (209, cX11_crash, 6, (some FieldType.boolean), 2), (210, cX11_delay, 6, (some FieldType.int), 3), (215, cX11_giveUp, 4, (some FieldType.boolean), 1), (216, cX11_hand, 4, (some FieldType.boolean), 2), (219, cX11_host, 2, (some (FieldType.object "AgreedStore$Server")), 1), (221, cX11_isAskable, 5, (some FieldType.boolean), 4), (222, cX11_isEndpoint, 1, (some FieldType.boolean), 1), (224, cX11_latency, 5, (some FieldType.int), 2), (225, cX11_learners, 5, (some FieldType.boolean), 2), (227, cX11_meddle, 4, (some FieldType.boolean), 3), (228, cX11_members, 6, (some FieldType.boolean), 2), (230, cX11_noise, 6, none, 4), (232, cX11_part, 3, (some FieldType.int), 1), (234, cX11_run, 4, (some FieldType.int), 1), (236, cX11_start, 4, (some FieldType.boolean), 1), (238, cX11_stop, 4, (some FieldType.boolean), 1)]
set_option maxRecDepth 20000 in
theorem xMs_t9_0_in : ∀ w ∈ xMs_t9_0.map xwC, w ∈ lw_tbl := fun w h => xin_t9 w (x_sub (big := tables_1_9) [10, 15, 21, 113, 148, 156, 160, 179, 164, 152, 175, 167, 187, 171, 211, 121, 144, 109, 133, 235, 183, 192, 207, 203, 215, 87, 82, 77, 73, 105, 44, 28, 229, 98, 6, 47, 94, 222, 69, 199, 62, 54, 36, 140, 129] rfl w h)
def xMs_t10_0 : List (Nat × ByteArray × Nat × Option FieldType × Nat) := [(50, cX2_tell, 3, (some FieldType.int), 2), (79, cX6_copyKey, 4, (some FieldType.int), 2), (80, cX6_copyValue, 4, (some FieldType.int), 2), (181, cX9_tell, 2, (some FieldType.int), 1), (203, cX11_answer, 3, (some FieldType.int), 1), (206, cX11_byteAt, 2, (some FieldType.int), 1), (207, cX11_client, 4, (some FieldType.int), 2), (212, cX11_entry, 6, (some FieldType.int), 3), (214, cX11_file, 5, (some FieldType.int), 3), (218, cX11_history, 3, (some FieldType.int), 2), (223, cX11_key, 4, (some FieldType.int), 2), (226, cX11_machineWith, 4, (some (FieldType.object "AgreedStore$Machine")), 2), (229, cX11_message, 4, (some FieldType.int), 2), (235, cX11_server, 4, (some FieldType.int), 2), (239, cX11_value, 4, (some FieldType.int), 2), (241, cX12_alarm, 3, none, 2), (274, cX12_drawAlarm, 2, none, 1), (297, cX12_init, 6, none, 2)]
set_option maxRecDepth 20000 in
theorem xMs_t10_0_in : ∀ w ∈ xMs_t10_0.map xwC, w ∈ lw_tbl := fun w h => xin_t10 w (x_sub (big := tables_1_10) [26, 41, 52, 6, 75, 91, 68, 13, 22, 83, 33, 37, 59, 2, 48, 114, 107, 96] rfl w h)
def xMs_t12_0 : List (Nat × ByteArray × Nat × Option FieldType × Nat) := [(240, cX12_add, 3, none, 1), (247, cX12_areParted, 3, (some FieldType.boolean), 2), (248, cX12_ask, 8, (some FieldType.int), 4), (261, cX12_copyFile, 4, none, 2), (262, cX12_copyLetter, 4, none, 2), (268, cX12_cut, 5, none, 3), (271, cX12_demand, 4, none, 1), (273, cX12_draw, 2, (some FieldType.int), 1), (275, cX12_dropRequests, 3, none, 1), (276, cX12_end, 2, (some FieldType.int), 1), (278, cX12_feed, 6, (some FieldType.int), 5), (280, cX12_fileOf, 2, (some FieldType.int), 2), (283, cX12_findNext, 2, none, 0), (284, cX12_fly, 4, none, 2), (287, cX12_fresh, 2, (some FieldType.int), 1), (288, cX12_giveUp, 2, (some FieldType.boolean), 1), (290, cX12_happen, 4, (some FieldType.int), 0), (294, cX12_in, 6, (some FieldType.boolean), 3), (300, cX12_isAsking, 6, (some FieldType.boolean), 4), (301, cX12_isCommand, 2, (some FieldType.boolean), 1), (303, cX12_isMajority, 5, (some FieldType.boolean), 2), (315, cX12_layLetter, 4, none, 2), (317, cX12_laySlot, 4, none, 1), (318, cX12_lead, 4, none, 1), (323, cX12_look, 4, none, 3), (330, cX12_old, 2, (some FieldType.int), 1), (349, cX12_resign, 2, none, 1), (352, cX12_run, 5, (some FieldType.int), 1), (356, cX12_sendOut, 6, none, 1), (359, cX12_size, 3, (some FieldType.int), 1), (360, cX12_soil, 2, none, 1), (363, cX12_stepDown, 4, none, 3), (365, cX12_sync, 4, none, 1), (366, cX12_syncAll, 3, none, 1), (367, cX12_syncFile, 4, none, 2), (370, cX12_tellClient, 5, none, 3), (373, cX12_thrown, 1, (some FieldType.int), 0), (381, cX12_write, 6, none, 5), (384, cX12_writeSlot, 2, none, 1)]
set_option maxRecDepth 20000 in
theorem xMs_t12_0_in : ∀ w ∈ xMs_t12_0.map xwC, w ∈ lw_tbl := fun w h => xin_t12 w (x_sub (big := tables_1_12) [88, 143, 100, 195, 151, 230, 112, 155, 238, 92, 84, 191, 168, 147, 207, 159, 176, 96, 105, 120, 199, 133, 226, 214, 172, 203, 116, 163, 139, 210, 234, 218, 180, 184, 188, 124, 80, 128, 222] rfl w h)
def xMs_t13_0 : List (Nat × ByteArray × Nat × Option FieldType × Nat) := [(243, cX12_answerReads, 5, none, 1), (244, cX12_append, 11, none, 4), (245, cX12_appendCode, 4, none, 2), (246, cX12_apply, 6, none, 1), (249, cX12_asked, 13, none, 2), (251, cX12_beat, 4, none, 1), (253, cX12_came, 9, none, 2), (254, cX12_campaign, 2, none, 1), (257, cX12_codeIn, 4, (some FieldType.int), 2), (258, cX12_common, 9, (some FieldType.int), 2), (259, cX12_compact, 6, none, 1), (260, cX12_compare, 8, (some FieldType.int), 4), (263, cX12_copySession, 4, none, 2), (265, cX12_count0, 3, none, 1), (281, cX12_find, 7, (some FieldType.int), 4), (282, cX12_findCode, 4, none, 1), (286, cX12_forget, 5, none, 2), (293, cX12_hold, 11, none, 8), (295, cX12_inLetter, 2, (some FieldType.byte), 1), (296, cX12_inLog, 2, (some FieldType.byte), 1), (298, cX12_integer, 2, (some FieldType.int), 1), (299, cX12_isAsNew, 5, (some FieldType.boolean), 3), (304, cX12_isPeer, 3, (some FieldType.boolean), 2), (306, cX12_isVoter, 3, (some FieldType.boolean), 2), (307, cX12_keep, 11, (some FieldType.boolean), 5), (312, cX12_lay, 4, none, 2), (313, cX12_lay4, 4, none, 2), (314, cX12_layDisk, 4, none, 2), (316, cX12_layLog, 4, none, 2), (319, cX12_learned, 2, (some FieldType.int), 1), (321, cX12_led, 6, none, 4), (322, cX12_logOf, 2, (some FieldType.int), 2), (327, cX12_nextContent, 2, (some FieldType.int), 1), (332, cX12_open, 5, none, 2), (333, cX12_operate, 10, none, 6), (334, cX12_pack, 5, none, 3), (335, cX12_packAll, 5, none, 1), (337, cX12_pause, 3, none, 2), (338, cX12_perform, 8, none, 2), (339, cX12_post, 3, none, 2), (340, cX12_postReply, 6, none, 4), (341, cX12_postVoters, 7, none, 3), (342, cX12_query, 8, none, 2), (343, cX12_rank, 6, (some FieldType.int), 4), (347, cX12_removeFile, 4, none, 2), (348, cX12_reply, 4, none, 1), (350, cX12_ring, 2, none, 1), (351, cX12_ringClient, 2, none, 1), (353, cX12_say, 2, none, 1), (354, cX12_send, 7, none, 3), (355, cX12_sendAll, 4, none, 2), (358, cX12_sessionOf, 4, (some FieldType.int), 2), (371, cX12_tellValue, 3, none, 1), (372, cX12_termAt, 3, (some FieldType.int), 2), (374, cX12_trim, 4, none, 1), (375, cX12_units, 5, (some FieldType.int), 1), (379, cX12_vote, 7, none, 5), (380, cX12_voters, 2, (some FieldType.int), 1), (382, cX12_writeEntries, 7, none, 3), (383, cX12_writeShot, 5, none, 1)]
set_option maxRecDepth 20000 in
theorem xMs_t13_0_in : ∀ w ∈ xMs_t13_0.map xwC, w ∈ lw_tbl := fun w h => xin_t13 w (x_sub (big := tables_1_13) [65, 2, 170, 106, 215, 33, 227, 194, 29, 69, 146, 82, 118, 102, 86, 25, 142, 223, 207, 21, 122, 231, 37, 186, 134, 13, 219, 17, 178, 45, 239, 9, 174, 114, 130, 154, 150, 211, 110, 57, 98, 190, 74, 78, 166, 202, 182, 198, 90, 53, 49, 126, 94, 6, 162, 138, 235, 41, 61, 158] rfl w h)
def xMs_t14_0 : List (Nat × ByteArray × Nat × Option FieldType × Nat) := [(242, cX12_answer, 3, (some FieldType.int), 1), (250, cX12_assemble, 13, none, 3), (252, cX12_byteAt, 2, (some FieldType.int), 1), (255, cX12_canChange, 2, (some FieldType.boolean), 1), (256, cX12_client, 3, (some FieldType.int), 2), (264, cX12_count, 2, (some FieldType.int), 1), (266, cX12_crash, 4, (some FieldType.boolean), 2), (267, cX12_crashFiles, 10, none, 2), (269, cX12_cutLog, 4, none, 2), (270, cX12_delay, 5, (some FieldType.int), 3), (272, cX12_down, 2, none, 1), (277, cX12_entry, 5, (some FieldType.int), 3), (279, cX12_file, 5, (some FieldType.int), 3), (285, cX12_follower, 5, (some FieldType.int), 3), (289, cX12_hand, 3, (some FieldType.boolean), 2), (291, cX12_heardOf, 9, none, 6), (292, cX12_history, 3, (some FieldType.int), 2), (302, cX12_isEndpoint, 1, (some FieldType.boolean), 1), (305, cX12_isSegment, 4, (some FieldType.boolean), 2), (308, cX12_key, 5, (some FieldType.int), 2), (309, cX12_keyAt, 4, (some FieldType.int), 2), (310, cX12_kth, 5, (some FieldType.int), 1), (311, cX12_latency, 4, (some FieldType.int), 2), (320, cX12_learners, 3, (some FieldType.boolean), 2), (324, cX12_meddle, 5, (some FieldType.boolean), 3), (325, cX12_members, 4, (some FieldType.boolean), 2), (326, cX12_message, 4, (some FieldType.int), 2), (328, cX12_noise, 6, none, 4), (329, cX12_now, 1, (some FieldType.int), 0), (331, cX12_onDisk, 2, (some FieldType.byte), 1), (336, cX12_part, 3, (some FieldType.int), 1), (344, cX12_readAt, 4, (some FieldType.int), 2), (345, cX12_recover, 11, none, 1), (346, cX12_recoverLog, 12, none, 1), (357, cX12_server, 5, (some FieldType.int), 2), (361, cX12_start, 2, (some FieldType.boolean), 1), (362, cX12_step, 1, (some FieldType.int), 0), (364, cX12_stop, 4, (some FieldType.boolean), 1), (368, cX12_take, 11, none, 3), (369, cX12_tell, 7, none, 6), (376, cX12_unpack, 5, (some FieldType.int), 2), (377, cX12_unpackAll, 5, none, 1), (378, cX12_value, 5, (some FieldType.int), 2)]
set_option maxRecDepth 20000 in
theorem xMs_t14_0_in : ∀ w ∈ xMs_t14_0.map xwC, w ∈ lw_tbl := fun w h => xin_t14 w (x_sub (big := tables_1_14) [166, 15, 174, 116, 162, 178, 67, 75, 11, 35, 71, 137, 141, 108, 125, 27, 170, 38, 100, 146, 150, 59, 63, 121, 54, 112, 158, 50, 129, 92, 45, 104, 88, 96, 133, 84, 31, 80, 7, 3, 23, 19, 154] rfl w h)
def xMs : List (Nat × ByteArray × Nat × Option FieldType × Nat) := xMs_t1_0 ++ (xMs_t2_0 ++ (xMs_t3_0 ++ (xMs_t4_0 ++ (xMs_t5_0 ++ (xMs_t6_0 ++ (xMs_t7_0 ++ (xMs_t8_0 ++ (xMs_t9_0 ++ (xMs_t10_0 ++ (xMs_t12_0 ++ (xMs_t13_0 ++ (xMs_t14_0))))))))))))
theorem xMs_in : ∀ w ∈ xMs.map xwC, w ∈ lw_tbl := by
  unfold xMs
  (try simp only [List.map_append])
  exact x_app xMs_t1_0_in (x_app xMs_t2_0_in (x_app xMs_t3_0_in (x_app xMs_t4_0_in (x_app xMs_t5_0_in (x_app xMs_t6_0_in (x_app xMs_t7_0_in (x_app xMs_t8_0_in (x_app xMs_t9_0_in (x_app xMs_t10_0_in (x_app xMs_t12_0_in (x_app xMs_t13_0_in (xMs_t14_0_in))))))))))))
theorem xly_Jx4a65c : ∀ w ∈ u_ws RJx4a65c TJx4a65c 3, w ∈ lw_tbl := by
  intro w h
  obtain ⟨k, hk, rfl⟩ := List.mem_map.mp h
  have hk := List.mem_range.mp hk
  have hz : ∀ k, k < 3 → u_lay RJx4a65c TJx4a65c k ∈ lw_tbl := by
    intro k hk
    match k, hk with
    | 0, _ => exact xin_t1 _ (List.mem_of_getElem? (i := 84) rfl)
    | 1, _ => exact xin_t1 _ (List.mem_of_getElem? (i := 80) rfl)
    | 2, _ => exact xin_t1 _ (List.mem_of_getElem? (i := 82) rfl)
    | n + 3, h => exact absurd h (by omega)
  exact hz k hk
theorem xly_X0 : ∀ w ∈ u_ws RX0 TX0 5, w ∈ lw_tbl := by
  intro w h
  obtain ⟨k, hk, rfl⟩ := List.mem_map.mp h
  have hk := List.mem_range.mp hk
  have hz : ∀ k, k < 5 → u_lay RX0 TX0 k ∈ lw_tbl := by
    intro k hk
    match k, hk with
    | 0, _ => exact xin_t1 _ (List.mem_of_getElem? (i := 177) rfl)
    | 1, _ => exact xin_t1 _ (List.mem_of_getElem? (i := 179) rfl)
    | 2, _ => exact xin_t1 _ (List.mem_of_getElem? (i := 181) rfl)
    | 3, _ => exact xin_t1 _ (List.mem_of_getElem? (i := 183) rfl)
    | 4, _ => exact xin_t1 _ (List.mem_of_getElem? (i := 185) rfl)
    | n + 5, h => exact absurd h (by omega)
  exact hz k hk
theorem xly_X1 : ∀ w ∈ u_ws RX1 TX1 14, w ∈ lw_tbl := by
  intro w h
  obtain ⟨k, hk, rfl⟩ := List.mem_map.mp h
  have hk := List.mem_range.mp hk
  have hz : ∀ k, k < 14 → u_lay RX1 TX1 k ∈ lw_tbl := by
    intro k hk
    match k, hk with
    | 0, _ => exact xin_t3 _ (List.mem_of_getElem? (i := 128) rfl)
    | 1, _ => exact xin_t3 _ (List.mem_of_getElem? (i := 130) rfl)
    | 2, _ => exact xin_t3 _ (List.mem_of_getElem? (i := 132) rfl)
    | 3, _ => exact xin_t3 _ (List.mem_of_getElem? (i := 134) rfl)
    | 4, _ => exact xin_t3 _ (List.mem_of_getElem? (i := 136) rfl)
    | 5, _ => exact xin_t3 _ (List.mem_of_getElem? (i := 138) rfl)
    | 6, _ => exact xin_t3 _ (List.mem_of_getElem? (i := 140) rfl)
    | 7, _ => exact xin_t3 _ (List.mem_of_getElem? (i := 142) rfl)
    | 8, _ => exact xin_t3 _ (List.mem_of_getElem? (i := 144) rfl)
    | 9, _ => exact xin_t3 _ (List.mem_of_getElem? (i := 146) rfl)
    | 10, _ => exact xin_t3 _ (List.mem_of_getElem? (i := 148) rfl)
    | 11, _ => exact xin_t3 _ (List.mem_of_getElem? (i := 150) rfl)
    | 12, _ => exact xin_t3 _ (List.mem_of_getElem? (i := 152) rfl)
    | 13, _ => exact xin_t3 _ (List.mem_of_getElem? (i := 154) rfl)
    | n + 14, h => exact absurd h (by omega)
  exact hz k hk
theorem xly_X2 : ∀ w ∈ u_ws RX2 TX2 10, w ∈ lw_tbl := by
  intro w h
  obtain ⟨k, hk, rfl⟩ := List.mem_map.mp h
  have hk := List.mem_range.mp hk
  have hz : ∀ k, k < 10 → u_lay RX2 TX2 k ∈ lw_tbl := by
    intro k hk
    match k, hk with
    | 0, _ => exact xin_t2 _ (List.mem_of_getElem? (i := 27) rfl)
    | 1, _ => exact xin_t2 _ (List.mem_of_getElem? (i := 29) rfl)
    | 2, _ => exact xin_t2 _ (List.mem_of_getElem? (i := 31) rfl)
    | 3, _ => exact xin_t2 _ (List.mem_of_getElem? (i := 33) rfl)
    | 4, _ => exact xin_t2 _ (List.mem_of_getElem? (i := 35) rfl)
    | 5, _ => exact xin_t2 _ (List.mem_of_getElem? (i := 37) rfl)
    | 6, _ => exact xin_t2 _ (List.mem_of_getElem? (i := 39) rfl)
    | 7, _ => exact xin_t2 _ (List.mem_of_getElem? (i := 41) rfl)
    | 8, _ => exact xin_t2 _ (List.mem_of_getElem? (i := 43) rfl)
    | 9, _ => exact xin_t2 _ (List.mem_of_getElem? (i := 45) rfl)
    | n + 10, h => exact absurd h (by omega)
  exact hz k hk
theorem xly_X3 : ∀ w ∈ u_ws RX3 TX3 12, w ∈ lw_tbl := by
  intro w h
  obtain ⟨k, hk, rfl⟩ := List.mem_map.mp h
  have hk := List.mem_range.mp hk
  have hz : ∀ k, k < 12 → u_lay RX3 TX3 k ∈ lw_tbl := by
    intro k hk
    match k, hk with
    | 0, _ => exact xin_t2 _ (List.mem_of_getElem? (i := 77) rfl)
    | 1, _ => exact xin_t2 _ (List.mem_of_getElem? (i := 79) rfl)
    | 2, _ => exact xin_t2 _ (List.mem_of_getElem? (i := 81) rfl)
    | 3, _ => exact xin_t2 _ (List.mem_of_getElem? (i := 83) rfl)
    | 4, _ => exact xin_t2 _ (List.mem_of_getElem? (i := 85) rfl)
    | 5, _ => exact xin_t2 _ (List.mem_of_getElem? (i := 87) rfl)
    | 6, _ => exact xin_t2 _ (List.mem_of_getElem? (i := 89) rfl)
    | 7, _ => exact xin_t2 _ (List.mem_of_getElem? (i := 91) rfl)
    | 8, _ => exact xin_t2 _ (List.mem_of_getElem? (i := 93) rfl)
    | 9, _ => exact xin_t2 _ (List.mem_of_getElem? (i := 95) rfl)
    | 10, _ => exact xin_t2 _ (List.mem_of_getElem? (i := 97) rfl)
    | 11, _ => exact xin_t2 _ (List.mem_of_getElem? (i := 99) rfl)
    | n + 12, h => exact absurd h (by omega)
  exact hz k hk
theorem xly_X4 : ∀ w ∈ u_ws RX4 TX4 20, w ∈ lw_tbl := by
  intro w h
  obtain ⟨k, hk, rfl⟩ := List.mem_map.mp h
  have hk := List.mem_range.mp hk
  have hz : ∀ k, k < 20 → u_lay RX4 TX4 k ∈ lw_tbl := by
    intro k hk
    match k, hk with
    | 0, _ => exact xin_t4 _ (List.mem_of_getElem? (i := 86) rfl)
    | 1, _ => exact xin_t4 _ (List.mem_of_getElem? (i := 88) rfl)
    | 2, _ => exact xin_t4 _ (List.mem_of_getElem? (i := 90) rfl)
    | 3, _ => exact xin_t4 _ (List.mem_of_getElem? (i := 92) rfl)
    | 4, _ => exact xin_t4 _ (List.mem_of_getElem? (i := 94) rfl)
    | 5, _ => exact xin_t4 _ (List.mem_of_getElem? (i := 96) rfl)
    | 6, _ => exact xin_t4 _ (List.mem_of_getElem? (i := 98) rfl)
    | 7, _ => exact xin_t4 _ (List.mem_of_getElem? (i := 100) rfl)
    | 8, _ => exact xin_t4 _ (List.mem_of_getElem? (i := 102) rfl)
    | 9, _ => exact xin_t4 _ (List.mem_of_getElem? (i := 104) rfl)
    | 10, _ => exact xin_t4 _ (List.mem_of_getElem? (i := 106) rfl)
    | 11, _ => exact xin_t4 _ (List.mem_of_getElem? (i := 108) rfl)
    | 12, _ => exact xin_t4 _ (List.mem_of_getElem? (i := 110) rfl)
    | 13, _ => exact xin_t4 _ (List.mem_of_getElem? (i := 112) rfl)
    | 14, _ => exact xin_t4 _ (List.mem_of_getElem? (i := 114) rfl)
    | 15, _ => exact xin_t4 _ (List.mem_of_getElem? (i := 116) rfl)
    | 16, _ => exact xin_t4 _ (List.mem_of_getElem? (i := 118) rfl)
    | 17, _ => exact xin_t4 _ (List.mem_of_getElem? (i := 120) rfl)
    | 18, _ => exact xin_t4 _ (List.mem_of_getElem? (i := 122) rfl)
    | 19, _ => exact xin_t4 _ (List.mem_of_getElem? (i := 124) rfl)
    | n + 20, h => exact absurd h (by omega)
  exact hz k hk
theorem xly_X5 : ∀ w ∈ u_ws RX5 TX5 12, w ∈ lw_tbl := by
  intro w h
  obtain ⟨k, hk, rfl⟩ := List.mem_map.mp h
  have hk := List.mem_range.mp hk
  have hz : ∀ k, k < 12 → u_lay RX5 TX5 k ∈ lw_tbl := by
    intro k hk
    match k, hk with
    | 0, _ => exact xin_t2 _ (List.mem_of_getElem? (i := 178) rfl)
    | 1, _ => exact xin_t2 _ (List.mem_of_getElem? (i := 180) rfl)
    | 2, _ => exact xin_t2 _ (List.mem_of_getElem? (i := 182) rfl)
    | 3, _ => exact xin_t2 _ (List.mem_of_getElem? (i := 184) rfl)
    | 4, _ => exact xin_t2 _ (List.mem_of_getElem? (i := 186) rfl)
    | 5, _ => exact xin_t2 _ (List.mem_of_getElem? (i := 188) rfl)
    | 6, _ => exact xin_t2 _ (List.mem_of_getElem? (i := 190) rfl)
    | 7, _ => exact xin_t2 _ (List.mem_of_getElem? (i := 192) rfl)
    | 8, _ => exact xin_t2 _ (List.mem_of_getElem? (i := 194) rfl)
    | 9, _ => exact xin_t2 _ (List.mem_of_getElem? (i := 196) rfl)
    | 10, _ => exact xin_t2 _ (List.mem_of_getElem? (i := 198) rfl)
    | 11, _ => exact xin_t2 _ (List.mem_of_getElem? (i := 200) rfl)
    | n + 12, h => exact absurd h (by omega)
  exact hz k hk
theorem xly_X6 : ∀ w ∈ u_ws RX6 TX6 15, w ∈ lw_tbl := by
  intro w h
  obtain ⟨k, hk, rfl⟩ := List.mem_map.mp h
  have hk := List.mem_range.mp hk
  have hz : ∀ k, k < 15 → u_lay RX6 TX6 k ∈ lw_tbl := by
    intro k hk
    match k, hk with
    | 0, _ => exact xin_t2 _ (List.mem_of_getElem? (i := 233) rfl)
    | 1, _ => exact xin_t2 _ (List.mem_of_getElem? (i := 235) rfl)
    | 2, _ => exact xin_t2 _ (List.mem_of_getElem? (i := 237) rfl)
    | 3, _ => exact xin_t2 _ (List.mem_of_getElem? (i := 239) rfl)
    | 4, _ => exact xin_t3 _ (List.mem_of_getElem? (i := 1) rfl)
    | 5, _ => exact xin_t3 _ (List.mem_of_getElem? (i := 3) rfl)
    | 6, _ => exact xin_t3 _ (List.mem_of_getElem? (i := 5) rfl)
    | 7, _ => exact xin_t3 _ (List.mem_of_getElem? (i := 7) rfl)
    | 8, _ => exact xin_t3 _ (List.mem_of_getElem? (i := 9) rfl)
    | 9, _ => exact xin_t3 _ (List.mem_of_getElem? (i := 11) rfl)
    | 10, _ => exact xin_t3 _ (List.mem_of_getElem? (i := 13) rfl)
    | 11, _ => exact xin_t3 _ (List.mem_of_getElem? (i := 15) rfl)
    | 12, _ => exact xin_t3 _ (List.mem_of_getElem? (i := 17) rfl)
    | 13, _ => exact xin_t3 _ (List.mem_of_getElem? (i := 19) rfl)
    | 14, _ => exact xin_t3 _ (List.mem_of_getElem? (i := 21) rfl)
    | n + 15, h => exact absurd h (by omega)
  exact hz k hk
theorem xly_X7 : ∀ w ∈ u_ws RX7 TX7 10, w ∈ lw_tbl := by
  intro w h
  obtain ⟨k, hk, rfl⟩ := List.mem_map.mp h
  have hk := List.mem_range.mp hk
  have hz : ∀ k, k < 10 → u_lay RX7 TX7 k ∈ lw_tbl := by
    intro k hk
    match k, hk with
    | 0, _ => exact xin_t1 _ (List.mem_of_getElem? (i := 231) rfl)
    | 1, _ => exact xin_t1 _ (List.mem_of_getElem? (i := 233) rfl)
    | 2, _ => exact xin_t1 _ (List.mem_of_getElem? (i := 235) rfl)
    | 3, _ => exact xin_t1 _ (List.mem_of_getElem? (i := 237) rfl)
    | 4, _ => exact xin_t1 _ (List.mem_of_getElem? (i := 239) rfl)
    | 5, _ => exact xin_t2 _ (List.mem_of_getElem? (i := 1) rfl)
    | 6, _ => exact xin_t2 _ (List.mem_of_getElem? (i := 3) rfl)
    | 7, _ => exact xin_t2 _ (List.mem_of_getElem? (i := 5) rfl)
    | 8, _ => exact xin_t2 _ (List.mem_of_getElem? (i := 7) rfl)
    | 9, _ => exact xin_t2 _ (List.mem_of_getElem? (i := 9) rfl)
    | n + 10, h => exact absurd h (by omega)
  exact hz k hk
theorem xly_X8 : ∀ w ∈ u_ws RX8 TX8 9, w ∈ lw_tbl := by
  intro w h
  obtain ⟨k, hk, rfl⟩ := List.mem_map.mp h
  have hk := List.mem_range.mp hk
  have hz : ∀ k, k < 9 → u_lay RX8 TX8 k ∈ lw_tbl := by
    intro k hk
    match k, hk with
    | 0, _ => exact xin_t2 _ (List.mem_of_getElem? (i := 127) rfl)
    | 1, _ => exact xin_t2 _ (List.mem_of_getElem? (i := 129) rfl)
    | 2, _ => exact xin_t2 _ (List.mem_of_getElem? (i := 131) rfl)
    | 3, _ => exact xin_t2 _ (List.mem_of_getElem? (i := 133) rfl)
    | 4, _ => exact xin_t2 _ (List.mem_of_getElem? (i := 135) rfl)
    | 5, _ => exact xin_t2 _ (List.mem_of_getElem? (i := 137) rfl)
    | 6, _ => exact xin_t2 _ (List.mem_of_getElem? (i := 139) rfl)
    | 7, _ => exact xin_t2 _ (List.mem_of_getElem? (i := 141) rfl)
    | 8, _ => exact xin_t2 _ (List.mem_of_getElem? (i := 143) rfl)
    | n + 9, h => exact absurd h (by omega)
  exact hz k hk
theorem xly_X9 : ∀ w ∈ u_ws RX9 TX9 20, w ∈ lw_tbl := by
  intro w h
  obtain ⟨k, hk, rfl⟩ := List.mem_map.mp h
  have hk := List.mem_range.mp hk
  have hz : ∀ k, k < 20 → u_lay RX9 TX9 k ∈ lw_tbl := by
    intro k hk
    match k, hk with
    | 0, _ => exact xin_t3 _ (List.mem_of_getElem? (i := 49) rfl)
    | 1, _ => exact xin_t3 _ (List.mem_of_getElem? (i := 51) rfl)
    | 2, _ => exact xin_t3 _ (List.mem_of_getElem? (i := 53) rfl)
    | 3, _ => exact xin_t3 _ (List.mem_of_getElem? (i := 55) rfl)
    | 4, _ => exact xin_t3 _ (List.mem_of_getElem? (i := 57) rfl)
    | 5, _ => exact xin_t3 _ (List.mem_of_getElem? (i := 59) rfl)
    | 6, _ => exact xin_t3 _ (List.mem_of_getElem? (i := 61) rfl)
    | 7, _ => exact xin_t3 _ (List.mem_of_getElem? (i := 63) rfl)
    | 8, _ => exact xin_t3 _ (List.mem_of_getElem? (i := 65) rfl)
    | 9, _ => exact xin_t3 _ (List.mem_of_getElem? (i := 67) rfl)
    | 10, _ => exact xin_t3 _ (List.mem_of_getElem? (i := 69) rfl)
    | 11, _ => exact xin_t3 _ (List.mem_of_getElem? (i := 71) rfl)
    | 12, _ => exact xin_t3 _ (List.mem_of_getElem? (i := 73) rfl)
    | 13, _ => exact xin_t3 _ (List.mem_of_getElem? (i := 75) rfl)
    | 14, _ => exact xin_t3 _ (List.mem_of_getElem? (i := 77) rfl)
    | 15, _ => exact xin_t3 _ (List.mem_of_getElem? (i := 79) rfl)
    | 16, _ => exact xin_t3 _ (List.mem_of_getElem? (i := 81) rfl)
    | 17, _ => exact xin_t3 _ (List.mem_of_getElem? (i := 83) rfl)
    | 18, _ => exact xin_t3 _ (List.mem_of_getElem? (i := 85) rfl)
    | 19, _ => exact xin_t3 _ (List.mem_of_getElem? (i := 87) rfl)
    | n + 20, h => exact absurd h (by omega)
  exact hz k hk
theorem xly_X10 : ∀ w ∈ u_ws RX10 TX10 17, w ∈ lw_tbl := by
  intro w h
  obtain ⟨k, hk, rfl⟩ := List.mem_map.mp h
  have hk := List.mem_range.mp hk
  have hz : ∀ k, k < 17 → u_lay RX10 TX10 k ∈ lw_tbl := by
    intro k hk
    match k, hk with
    | 0, _ => exact xin_t1 _ (List.mem_of_getElem? (i := 128) rfl)
    | 1, _ => exact xin_t1 _ (List.mem_of_getElem? (i := 130) rfl)
    | 2, _ => exact xin_t1 _ (List.mem_of_getElem? (i := 132) rfl)
    | 3, _ => exact xin_t1 _ (List.mem_of_getElem? (i := 134) rfl)
    | 4, _ => exact xin_t1 _ (List.mem_of_getElem? (i := 136) rfl)
    | 5, _ => exact xin_t1 _ (List.mem_of_getElem? (i := 138) rfl)
    | 6, _ => exact xin_t1 _ (List.mem_of_getElem? (i := 140) rfl)
    | 7, _ => exact xin_t1 _ (List.mem_of_getElem? (i := 142) rfl)
    | 8, _ => exact xin_t1 _ (List.mem_of_getElem? (i := 144) rfl)
    | 9, _ => exact xin_t1 _ (List.mem_of_getElem? (i := 146) rfl)
    | 10, _ => exact xin_t1 _ (List.mem_of_getElem? (i := 148) rfl)
    | 11, _ => exact xin_t1 _ (List.mem_of_getElem? (i := 150) rfl)
    | 12, _ => exact xin_t1 _ (List.mem_of_getElem? (i := 152) rfl)
    | 13, _ => exact xin_t1 _ (List.mem_of_getElem? (i := 154) rfl)
    | 14, _ => exact xin_t1 _ (List.mem_of_getElem? (i := 156) rfl)
    | 15, _ => exact xin_t1 _ (List.mem_of_getElem? (i := 158) rfl)
    | 16, _ => exact xin_t1 _ (List.mem_of_getElem? (i := 160) rfl)
    | n + 17, h => exact absurd h (by omega)
  exact hz k hk
theorem xly_X11 : ∀ w ∈ u_ws RX11 TX11 8, w ∈ lw_tbl := by
  intro w h
  obtain ⟨k, hk, rfl⟩ := List.mem_map.mp h
  have hk := List.mem_range.mp hk
  have hz : ∀ k, k < 8 → u_lay RX11 TX11 k ∈ lw_tbl := by
    intro k hk
    match k, hk with
    | 0, _ => exact xin_t3 _ (List.mem_of_getElem? (i := 165) rfl)
    | 1, _ => exact xin_t3 _ (List.mem_of_getElem? (i := 167) rfl)
    | 2, _ => exact xin_t3 _ (List.mem_of_getElem? (i := 169) rfl)
    | 3, _ => exact xin_t3 _ (List.mem_of_getElem? (i := 171) rfl)
    | 4, _ => exact xin_t3 _ (List.mem_of_getElem? (i := 173) rfl)
    | 5, _ => exact xin_t3 _ (List.mem_of_getElem? (i := 175) rfl)
    | 6, _ => exact xin_t3 _ (List.mem_of_getElem? (i := 177) rfl)
    | 7, _ => exact xin_t3 _ (List.mem_of_getElem? (i := 179) rfl)
    | n + 8, h => exact absurd h (by omega)
  exact hz k hk
theorem xly_X12 : ∀ w ∈ u_ws RX12 TX12 147, w ∈ lw_tbl := by
  intro w h
  obtain ⟨k, hk, rfl⟩ := List.mem_map.mp h
  have hk := List.mem_range.mp hk
  have hz : ∀ k, k < 147 → u_lay RX12 TX12 k ∈ lw_tbl := by
    intro k hk
    match k, hk with
    | 0, _ => exact xin_t11 _ (List.mem_of_getElem? (i := 22) rfl)
    | 1, _ => exact xin_t11 _ (List.mem_of_getElem? (i := 24) rfl)
    | 2, _ => exact xin_t11 _ (List.mem_of_getElem? (i := 26) rfl)
    | 3, _ => exact xin_t11 _ (List.mem_of_getElem? (i := 28) rfl)
    | 4, _ => exact xin_t11 _ (List.mem_of_getElem? (i := 30) rfl)
    | 5, _ => exact xin_t11 _ (List.mem_of_getElem? (i := 32) rfl)
    | 6, _ => exact xin_t11 _ (List.mem_of_getElem? (i := 34) rfl)
    | 7, _ => exact xin_t11 _ (List.mem_of_getElem? (i := 36) rfl)
    | 8, _ => exact xin_t11 _ (List.mem_of_getElem? (i := 38) rfl)
    | 9, _ => exact xin_t11 _ (List.mem_of_getElem? (i := 40) rfl)
    | 10, _ => exact xin_t11 _ (List.mem_of_getElem? (i := 42) rfl)
    | 11, _ => exact xin_t11 _ (List.mem_of_getElem? (i := 44) rfl)
    | 12, _ => exact xin_t11 _ (List.mem_of_getElem? (i := 46) rfl)
    | 13, _ => exact xin_t11 _ (List.mem_of_getElem? (i := 48) rfl)
    | 14, _ => exact xin_t11 _ (List.mem_of_getElem? (i := 50) rfl)
    | 15, _ => exact xin_t11 _ (List.mem_of_getElem? (i := 52) rfl)
    | 16, _ => exact xin_t11 _ (List.mem_of_getElem? (i := 54) rfl)
    | 17, _ => exact xin_t11 _ (List.mem_of_getElem? (i := 56) rfl)
    | 18, _ => exact xin_t11 _ (List.mem_of_getElem? (i := 58) rfl)
    | 19, _ => exact xin_t11 _ (List.mem_of_getElem? (i := 60) rfl)
    | 20, _ => exact xin_t11 _ (List.mem_of_getElem? (i := 62) rfl)
    | 21, _ => exact xin_t11 _ (List.mem_of_getElem? (i := 64) rfl)
    | 22, _ => exact xin_t11 _ (List.mem_of_getElem? (i := 66) rfl)
    | 23, _ => exact xin_t11 _ (List.mem_of_getElem? (i := 68) rfl)
    | 24, _ => exact xin_t11 _ (List.mem_of_getElem? (i := 70) rfl)
    | 25, _ => exact xin_t11 _ (List.mem_of_getElem? (i := 72) rfl)
    | 26, _ => exact xin_t11 _ (List.mem_of_getElem? (i := 74) rfl)
    | 27, _ => exact xin_t11 _ (List.mem_of_getElem? (i := 76) rfl)
    | 28, _ => exact xin_t11 _ (List.mem_of_getElem? (i := 78) rfl)
    | 29, _ => exact xin_t11 _ (List.mem_of_getElem? (i := 80) rfl)
    | 30, _ => exact xin_t11 _ (List.mem_of_getElem? (i := 82) rfl)
    | 31, _ => exact xin_t11 _ (List.mem_of_getElem? (i := 84) rfl)
    | 32, _ => exact xin_t11 _ (List.mem_of_getElem? (i := 86) rfl)
    | 33, _ => exact xin_t11 _ (List.mem_of_getElem? (i := 88) rfl)
    | 34, _ => exact xin_t11 _ (List.mem_of_getElem? (i := 90) rfl)
    | 35, _ => exact xin_t11 _ (List.mem_of_getElem? (i := 92) rfl)
    | 36, _ => exact xin_t11 _ (List.mem_of_getElem? (i := 94) rfl)
    | 37, _ => exact xin_t11 _ (List.mem_of_getElem? (i := 96) rfl)
    | 38, _ => exact xin_t11 _ (List.mem_of_getElem? (i := 98) rfl)
    | 39, _ => exact xin_t11 _ (List.mem_of_getElem? (i := 100) rfl)
    | 40, _ => exact xin_t11 _ (List.mem_of_getElem? (i := 102) rfl)
    | 41, _ => exact xin_t11 _ (List.mem_of_getElem? (i := 104) rfl)
    | 42, _ => exact xin_t11 _ (List.mem_of_getElem? (i := 106) rfl)
    | 43, _ => exact xin_t11 _ (List.mem_of_getElem? (i := 108) rfl)
    | 44, _ => exact xin_t11 _ (List.mem_of_getElem? (i := 110) rfl)
    | 45, _ => exact xin_t11 _ (List.mem_of_getElem? (i := 112) rfl)
    | 46, _ => exact xin_t11 _ (List.mem_of_getElem? (i := 114) rfl)
    | 47, _ => exact xin_t11 _ (List.mem_of_getElem? (i := 116) rfl)
    | 48, _ => exact xin_t11 _ (List.mem_of_getElem? (i := 118) rfl)
    | 49, _ => exact xin_t11 _ (List.mem_of_getElem? (i := 120) rfl)
    | 50, _ => exact xin_t11 _ (List.mem_of_getElem? (i := 122) rfl)
    | 51, _ => exact xin_t11 _ (List.mem_of_getElem? (i := 124) rfl)
    | 52, _ => exact xin_t11 _ (List.mem_of_getElem? (i := 126) rfl)
    | 53, _ => exact xin_t11 _ (List.mem_of_getElem? (i := 128) rfl)
    | 54, _ => exact xin_t11 _ (List.mem_of_getElem? (i := 130) rfl)
    | 55, _ => exact xin_t11 _ (List.mem_of_getElem? (i := 132) rfl)
    | 56, _ => exact xin_t11 _ (List.mem_of_getElem? (i := 134) rfl)
    | 57, _ => exact xin_t11 _ (List.mem_of_getElem? (i := 136) rfl)
    | 58, _ => exact xin_t11 _ (List.mem_of_getElem? (i := 138) rfl)
    | 59, _ => exact xin_t11 _ (List.mem_of_getElem? (i := 140) rfl)
    | 60, _ => exact xin_t11 _ (List.mem_of_getElem? (i := 142) rfl)
    | 61, _ => exact xin_t11 _ (List.mem_of_getElem? (i := 144) rfl)
    | 62, _ => exact xin_t11 _ (List.mem_of_getElem? (i := 146) rfl)
    | 63, _ => exact xin_t11 _ (List.mem_of_getElem? (i := 148) rfl)
    | 64, _ => exact xin_t11 _ (List.mem_of_getElem? (i := 150) rfl)
    | 65, _ => exact xin_t11 _ (List.mem_of_getElem? (i := 152) rfl)
    | 66, _ => exact xin_t11 _ (List.mem_of_getElem? (i := 154) rfl)
    | 67, _ => exact xin_t11 _ (List.mem_of_getElem? (i := 156) rfl)
    | 68, _ => exact xin_t11 _ (List.mem_of_getElem? (i := 158) rfl)
    | 69, _ => exact xin_t11 _ (List.mem_of_getElem? (i := 160) rfl)
    | 70, _ => exact xin_t11 _ (List.mem_of_getElem? (i := 162) rfl)
    | 71, _ => exact xin_t11 _ (List.mem_of_getElem? (i := 164) rfl)
    | 72, _ => exact xin_t11 _ (List.mem_of_getElem? (i := 166) rfl)
    | 73, _ => exact xin_t11 _ (List.mem_of_getElem? (i := 168) rfl)
    | 74, _ => exact xin_t11 _ (List.mem_of_getElem? (i := 170) rfl)
    | 75, _ => exact xin_t11 _ (List.mem_of_getElem? (i := 172) rfl)
    | 76, _ => exact xin_t11 _ (List.mem_of_getElem? (i := 174) rfl)
    | 77, _ => exact xin_t11 _ (List.mem_of_getElem? (i := 176) rfl)
    | 78, _ => exact xin_t11 _ (List.mem_of_getElem? (i := 178) rfl)
    | 79, _ => exact xin_t11 _ (List.mem_of_getElem? (i := 180) rfl)
    | 80, _ => exact xin_t11 _ (List.mem_of_getElem? (i := 182) rfl)
    | 81, _ => exact xin_t11 _ (List.mem_of_getElem? (i := 184) rfl)
    | 82, _ => exact xin_t11 _ (List.mem_of_getElem? (i := 186) rfl)
    | 83, _ => exact xin_t11 _ (List.mem_of_getElem? (i := 188) rfl)
    | 84, _ => exact xin_t11 _ (List.mem_of_getElem? (i := 190) rfl)
    | 85, _ => exact xin_t11 _ (List.mem_of_getElem? (i := 192) rfl)
    | 86, _ => exact xin_t11 _ (List.mem_of_getElem? (i := 194) rfl)
    | 87, _ => exact xin_t11 _ (List.mem_of_getElem? (i := 196) rfl)
    | 88, _ => exact xin_t11 _ (List.mem_of_getElem? (i := 198) rfl)
    | 89, _ => exact xin_t11 _ (List.mem_of_getElem? (i := 200) rfl)
    | 90, _ => exact xin_t11 _ (List.mem_of_getElem? (i := 202) rfl)
    | 91, _ => exact xin_t11 _ (List.mem_of_getElem? (i := 204) rfl)
    | 92, _ => exact xin_t11 _ (List.mem_of_getElem? (i := 206) rfl)
    | 93, _ => exact xin_t11 _ (List.mem_of_getElem? (i := 208) rfl)
    | 94, _ => exact xin_t11 _ (List.mem_of_getElem? (i := 210) rfl)
    | 95, _ => exact xin_t11 _ (List.mem_of_getElem? (i := 212) rfl)
    | 96, _ => exact xin_t11 _ (List.mem_of_getElem? (i := 214) rfl)
    | 97, _ => exact xin_t11 _ (List.mem_of_getElem? (i := 216) rfl)
    | 98, _ => exact xin_t11 _ (List.mem_of_getElem? (i := 218) rfl)
    | 99, _ => exact xin_t11 _ (List.mem_of_getElem? (i := 220) rfl)
    | 100, _ => exact xin_t11 _ (List.mem_of_getElem? (i := 222) rfl)
    | 101, _ => exact xin_t11 _ (List.mem_of_getElem? (i := 224) rfl)
    | 102, _ => exact xin_t11 _ (List.mem_of_getElem? (i := 226) rfl)
    | 103, _ => exact xin_t11 _ (List.mem_of_getElem? (i := 228) rfl)
    | 104, _ => exact xin_t11 _ (List.mem_of_getElem? (i := 230) rfl)
    | 105, _ => exact xin_t11 _ (List.mem_of_getElem? (i := 232) rfl)
    | 106, _ => exact xin_t11 _ (List.mem_of_getElem? (i := 234) rfl)
    | 107, _ => exact xin_t11 _ (List.mem_of_getElem? (i := 236) rfl)
    | 108, _ => exact xin_t11 _ (List.mem_of_getElem? (i := 238) rfl)
    | 109, _ => exact xin_t12 _ (List.mem_of_getElem? (i := 0) rfl)
    | 110, _ => exact xin_t12 _ (List.mem_of_getElem? (i := 2) rfl)
    | 111, _ => exact xin_t12 _ (List.mem_of_getElem? (i := 4) rfl)
    | 112, _ => exact xin_t12 _ (List.mem_of_getElem? (i := 6) rfl)
    | 113, _ => exact xin_t12 _ (List.mem_of_getElem? (i := 8) rfl)
    | 114, _ => exact xin_t12 _ (List.mem_of_getElem? (i := 10) rfl)
    | 115, _ => exact xin_t12 _ (List.mem_of_getElem? (i := 12) rfl)
    | 116, _ => exact xin_t12 _ (List.mem_of_getElem? (i := 14) rfl)
    | 117, _ => exact xin_t12 _ (List.mem_of_getElem? (i := 16) rfl)
    | 118, _ => exact xin_t12 _ (List.mem_of_getElem? (i := 18) rfl)
    | 119, _ => exact xin_t12 _ (List.mem_of_getElem? (i := 20) rfl)
    | 120, _ => exact xin_t12 _ (List.mem_of_getElem? (i := 22) rfl)
    | 121, _ => exact xin_t12 _ (List.mem_of_getElem? (i := 24) rfl)
    | 122, _ => exact xin_t12 _ (List.mem_of_getElem? (i := 26) rfl)
    | 123, _ => exact xin_t12 _ (List.mem_of_getElem? (i := 28) rfl)
    | 124, _ => exact xin_t12 _ (List.mem_of_getElem? (i := 30) rfl)
    | 125, _ => exact xin_t12 _ (List.mem_of_getElem? (i := 32) rfl)
    | 126, _ => exact xin_t12 _ (List.mem_of_getElem? (i := 34) rfl)
    | 127, _ => exact xin_t12 _ (List.mem_of_getElem? (i := 36) rfl)
    | 128, _ => exact xin_t12 _ (List.mem_of_getElem? (i := 38) rfl)
    | 129, _ => exact xin_t12 _ (List.mem_of_getElem? (i := 40) rfl)
    | 130, _ => exact xin_t12 _ (List.mem_of_getElem? (i := 42) rfl)
    | 131, _ => exact xin_t12 _ (List.mem_of_getElem? (i := 44) rfl)
    | 132, _ => exact xin_t12 _ (List.mem_of_getElem? (i := 46) rfl)
    | 133, _ => exact xin_t12 _ (List.mem_of_getElem? (i := 48) rfl)
    | 134, _ => exact xin_t12 _ (List.mem_of_getElem? (i := 50) rfl)
    | 135, _ => exact xin_t12 _ (List.mem_of_getElem? (i := 52) rfl)
    | 136, _ => exact xin_t12 _ (List.mem_of_getElem? (i := 54) rfl)
    | 137, _ => exact xin_t12 _ (List.mem_of_getElem? (i := 56) rfl)
    | 138, _ => exact xin_t12 _ (List.mem_of_getElem? (i := 58) rfl)
    | 139, _ => exact xin_t12 _ (List.mem_of_getElem? (i := 60) rfl)
    | 140, _ => exact xin_t12 _ (List.mem_of_getElem? (i := 62) rfl)
    | 141, _ => exact xin_t12 _ (List.mem_of_getElem? (i := 64) rfl)
    | 142, _ => exact xin_t12 _ (List.mem_of_getElem? (i := 66) rfl)
    | 143, _ => exact xin_t12 _ (List.mem_of_getElem? (i := 68) rfl)
    | 144, _ => exact xin_t12 _ (List.mem_of_getElem? (i := 70) rfl)
    | 145, _ => exact xin_t12 _ (List.mem_of_getElem? (i := 72) rfl)
    | 146, _ => exact xin_t12 _ (List.mem_of_getElem? (i := 74) rfl)
    | n + 147, h => exact absurd h (by omega)
  exact hz k hk
def xALL : List Jvm.Cond := lw_tbl.filter goodWord
theorem xALL_g {w : Jvm.Cond} (h : w ∈ lw_tbl) (g : goodWord w = true) : w ∈ xALL := List.mem_filter.mpr ⟨h, g⟩
